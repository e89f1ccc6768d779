import java.util.List;
import java.util.Random;

@Case("all promises, runs of calls against the document in its plainest form")
public final class ModelTest {
    private static final String[] NAMES = {
        "get", "set", "set", "set", "zero", "copy", "copy", "resize", "make", "make", "make", "make", "free", "free",
        "free", "block", "linear", "linear", "binary", "binary", "linked", "linked", "protect", "keep", "back",
        "restart", "same", "write", "write", "code", "poke", "poke", "cut", "read", "read", "told"
    };
    private static final int[] EDGES = {
        0, 1, -1, 2, 3, 4, 5, 8, 9, 63, 64, 65, 255, 256, 257, 1023, 1024, 1025, 3000, 3001, 7168, 8191, 8192, 8193,
        Integer.MAX_VALUE, Integer.MIN_VALUE
    };

    private final Random random;
    private final Model model = new Model();
    private final Run run = new Run();
    private int calls;

    private ModelTest(int seed) {
        random = new Random(seed);
    }

    public static void main(String[] arguments) {
        Cases.run(ModelTest.class);
    }

    @Case("all calls, in runs of 60 to 460, then all that is there is looked at")
    static void allCalls() {
        for (int seed = 1; seed <= 3000; seed++) {
            new ModelTest(seed).go(60 + seed % 5 * 100);
        }
    }

    @Case("many small BLOCKS, so that all 64 get USED")
    static void fullHeap() {
        for (int seed = 5001; seed <= 5200; seed++) {
            new ModelTest(seed).fillHeap(300);
        }
    }

    private void go(int count) {
        while (calls < count) {
            String name = NAMES[random.nextInt(NAMES.length)];
            // Rare, or memory would be empty in most of a run.
            if (name.equals("restart") && random.nextInt(4) > 0) {
                name = "read";
            }
            if (!compare(name, arguments(name))) {
                return;
            }
        }
        compareAll();
    }

    private void fillHeap(int count) {
        while (calls < count) {
            boolean makes = random.nextInt(3) > 0;
            int n = 1 + random.nextInt(random.nextInt(10) == 0 ? 900 : 60);
            if (!compare(makes ? "make" : "free", makes ? n : blockPlace())) {
                return;
            }
            if (random.nextInt(30) == 0 && !(compare("write") && compare("read"))) {
                return;
            }
        }
        compareAll();
    }

    private boolean compare(String name, int... arguments) {
        calls++;
        return run.due(model.call(name, arguments), name, arguments);
    }

    /** As much as the calls that are left can ask: in some runs of the code that is there, else of one of all memory. */
    private void compareAll() {
        boolean alike = true;
        for (int what = 0; what <= 8 && alike; what++) {
            alike = compare("told", what);
        }
        if (alike && random.nextInt(3) > 0) {
            alike = compare("write");
        }
        int blocks = 3 * model.blockPlaces().size();
        int bytes = model.codeLength();
        while (alike && calls < Run.CALLS_MOST) {
            if (blocks > 0 && random.nextInt(4) == 0) {
                int i = random.nextInt(blocks);
                alike = compare("block", i / 3, i % 3);
            } else if (random.nextInt(3) == 0) {
                alike = compare("get", random.nextInt(model.size() / 4) * 4, 4);
            } else {
                alike = compare("code", random.nextInt(bytes + 1));
            }
        }
    }

    private int[] arguments(String name) {
        int[] right = rightArguments(name);
        if (right.length > 0 && random.nextInt(6) == 0) {
            int edge = EDGES[random.nextInt(EDGES.length)];
            right[random.nextInt(right.length)] = edge;
        }
        return right;
    }

    private int[] rightArguments(String name) {
        switch (name) {
            case "get": return new int[] {place(), width()};
            case "set": return new int[] {place(), width(), value()};
            case "zero": return new int[] {place(), length()};
            case "copy": return new int[] {random.nextInt(4) == 0 ? random.nextInt(70) : place(), place(), length()};
            case "resize": return new int[] {256 * (1 + random.nextInt(random.nextInt(4) == 0 ? 32 : 6))};
            case "make": return new int[] {1 + random.nextInt(random.nextInt(5) == 0 ? 3000 : 120)};
            case "free": return new int[] {blockPlace()};
            case "block": return new int[] {random.nextInt(8), random.nextInt(3)};
            case "protect": return new int[] {place(), random.nextInt(3) == 0 ? 0 : length() * random.nextInt(9)};
            case "code": return new int[] {random.nextInt(60)};
            case "poke": return new int[] {codePlace(), pokeValue()};
            case "cut": return new int[] {random.nextInt(3) == 0 ? codePlace() : model.codeLength()};
            case "told": return new int[] {random.nextInt(9)};
            case "linear":
            case "binary": return rowArguments(name.equals("binary"));
            case "linked": return chainArguments();
            default: return new int[0];
        }
    }

    private int[] rowArguments(boolean binary) {
        int options = random.nextInt(8) & (binary ? 5 : 7);
        int n = random.nextInt(4) == 0 ? (binary ? 300 : -1) : random.nextInt(40);
        return new int[] {key(options), keyLength(options), place(), random.nextInt(9), n, random.nextInt(12), options};
    }

    private int[] chainArguments() {
        int options = random.nextInt(4);
        return new int[] {key(options), keyLength(options), place(), random.nextInt(12), random.nextInt(9), options};
    }

    private int key(int options) {
        return options % 2 == 1 ? place() : value();
    }

    private int keyLength(int options) {
        if (options % 2 == 0) {
            return width();
        }
        return 1 + random.nextInt(random.nextInt(4) == 0 ? 64 : 4);
    }

    private int width() {
        return 1 << random.nextInt(3);
    }

    /** Most places lie close together, so that what is written is come upon. */
    private int place() {
        switch (random.nextInt(8)) {
            case 0: return random.nextInt(model.size());
            case 1: return Math.max(0, model.size() - random.nextInt(8));
            case 2: return random.nextInt(70);
            default: return 64 + random.nextInt(60);
        }
    }

    private int length() {
        return random.nextInt(random.nextInt(4) == 0 ? 700 : 24);
    }

    private int value() {
        switch (random.nextInt(5)) {
            case 0: return random.nextInt();
            case 1: return 64 + random.nextInt(60);
            default: return random.nextInt(5);
        }
    }

    private int blockPlace() {
        List<Integer> places = model.blockPlaces();
        return places.isEmpty() ? 1024 : places.get(random.nextInt(places.size()));
    }

    private int codePlace() {
        int near = random.nextInt(3) == 0 ? 22 : Math.max(1, model.codeLength());
        return random.nextInt(near);
    }

    private int pokeValue() {
        return random.nextInt(3) == 0 ? random.nextInt(256) : random.nextInt(7);
    }
}
