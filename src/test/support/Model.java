import java.util.ArrayDeque;
import java.util.ArrayList;
import java.util.Deque;
import java.util.List;
import java.util.Map;
import java.util.TreeMap;

/** The document once more, in the plainest form: whole copies, lists, a mark for each byte of the heap. */
final class Model {
    private static final int BAD = -11, OUTSIDE = -12, READONLY = -13, BUSY = -14, FULL = -15, ENDLESS = -16;

    /** The code can not be at this place. */
    private static final class Wrong extends Exception {
        private static final long serialVersionUID = 1;
        final int place;

        Wrong(int place) {
            this.place = place;
        }
    }

    private static final class World {
        List<Integer> memory = new ArrayList<>();
        int start;
        TreeMap<Integer, Integer> blocks = new TreeMap<>();

        static World first() {
            World world = new World();
            for (int i = 0; i < 1024; i++) {
                world.memory.add(firstByte(i));
            }
            return world;
        }

        World twin() {
            World world = new World();
            world.memory = new ArrayList<>(memory);
            world.start = start;
            world.blocks = new TreeMap<>(blocks);
            return world;
        }

        void sizeTo(int size) {
            while (memory.size() > size) {
                memory.remove(memory.size() - 1);
            }
            while (memory.size() < size) {
                memory.add(0);
            }
        }

        boolean lacks(long at, long n) {
            return at < 0 || at + n > memory.size();
        }

        /** Each gap's place and length, found byte by byte. */
        TreeMap<Integer, Integer> gaps() {
            TreeMap<Integer, Integer> gaps = new TreeMap<>();
            if (blocks.isEmpty()) {
                return gaps;
            }
            boolean[] taken = new boolean[memory.size()];
            blocks.forEach((place, length) -> {
                for (int i = 0; i < length; i++) {
                    taken[place + i] = true;
                }
            });
            int begin = -1;
            for (int i = start; i < taken.length; i++) {
                if (taken[i]) {
                    begin = -1;
                } else if (begin < 0) {
                    begin = i;
                    gaps.put(i, 1);
                } else {
                    gaps.merge(begin, 1, Integer::sum);
                }
            }
            return gaps;
        }
    }

    private World world = World.first();
    private final Deque<World> kept = new ArrayDeque<>();
    private List<Integer> code = new ArrayList<>();
    private int protectedAt, protectedLength;

    static int firstByte(int i) {
        return i < 64 ? i * 7 % 256 : 0;
    }

    long call(String name, int... a) {
        switch (name) {
            case "get": return get(a[0], a[1]);
            case "set": return set(a[0], a[1], a[2]);
            case "zero": return zero(a[0], a[1]);
            case "copy": return copy(a[0], a[1], a[2]);
            case "resize": return resize(a[0]);
            case "make": return make(a[0]);
            case "free": return free(a[0]);
            case "block": return block(a[0], a[1]);
            case "linear": return linear(a);
            case "binary": return binary(a);
            case "linked": return linked(a);
            case "protect": return protect(a[0], a[1]);
            case "keep": return keep();
            case "back": return back();
            case "restart": comes(World.first()); return 1;
            case "same": return same();
            case "write": return write();
            case "code": return a[0] >= 0 && a[0] < code.size() ? code.get(a[0]) : -1;
            case "poke": return poke(a[0], a[1]);
            case "cut": return cut(a[0]);
            case "read": return read();
            case "told": return told(a[0]);
            default: throw new IllegalArgumentException(name);
        }
    }

    private long get(int at, int width) {
        if (at < 0 || width != 1 && width != 2 && width != 4) return BAD;
        if (world.lacks(at, width)) return OUTSIDE;
        long number = 0;
        for (int b : world.memory.subList(at, at + width)) number = number * 256 + b;
        return number;
    }

    private long set(int at, int width, int v) {
        long there = get(at, width);
        if (there < 0) return there;
        if (at < 64) return READONLY;
        for (int i = 0; i < width; i++) world.memory.set(at + width - 1 - i, v >> 8 * i & 255);
        return 1;
    }

    private long zero(int at, int n) {
        if (at < 0 || n < 0) return BAD;
        if (n == 0) return 1;
        if (world.lacks(at, n)) return OUTSIDE;
        if (at < 64) return READONLY;
        for (int i = 0; i < n; i++) world.memory.set(at + i, 0);
        return 1;
    }

    private long copy(int from, int to, int n) {
        if (from < 0 || to < 0 || n < 0) return BAD;
        if (n == 0) return 1;
        if (world.lacks(from, n) || world.lacks(to, n)) return OUTSIDE;
        if (to < 64) return READONLY;
        List<Integer> before = new ArrayList<>(world.memory);
        for (int i = 0; i < n; i++) world.memory.set(to + i, before.get(from + i));
        return 1;
    }

    private static boolean isSize(int size) {
        for (int s = 256; s <= 8192; s += 256) {
            if (s == size) return true;
        }
        return false;
    }

    private long resize(int size) {
        if (!isSize(size)) return BAD;
        if (!world.blocks.isEmpty()) return BUSY;
        int before = world.memory.size();
        world.sizeTo(size);
        return before;
    }

    private long make(int n) {
        if (n < 1) return BAD;
        if (world.blocks.size() == 64) return 0;
        int size = world.memory.size();
        int place = size;
        for (Map.Entry<Integer, Integer> gap : world.gaps().entrySet()) {
            if (gap.getValue() >= n) {
                world.blocks.put(gap.getKey(), n);
                return gap.getKey();
            }
            if (gap.getKey() + gap.getValue() == size) place = gap.getKey();
        }
        int grown = size;
        while (grown <= 8192 && grown - place < n) grown += 256;
        if (grown > 8192) return 0;
        if (world.blocks.isEmpty()) world.start = size;
        world.sizeTo(grown);
        world.blocks.put(place, n);
        return place;
    }

    private long free(int at) {
        if (!world.blocks.containsKey(at)) return BAD;
        int length = world.blocks.remove(at);
        if (world.blocks.isEmpty()) {
            world.sizeTo(world.start);
            world.start = 0;
        }
        return length;
    }

    private long block(int i, int what) {
        if (what < 0 || what > 2 || i < 0 || i >= world.blocks.size()) return BAD;
        int place = new ArrayList<>(world.blocks.keySet()).get(i);
        int length = world.blocks.get(place);
        return what == 0 ? place : what == 1 ? length : world.gaps().getOrDefault(place + length, 0);
    }

    private static boolean badSearch(int k, int start, int offset, int options) {
        if (start < 0 || offset < 0 || options < 0 || options > 7) return true;
        return options % 2 == 1 ? k < 1 || k > 64 : k != 1 && k != 2 && k != 4;
    }

    /** The bytes of memory from a place on; null if it has not all. */
    private List<Integer> bytes(long at, int n) {
        return world.lacks(at, n) ? null : new ArrayList<>(world.memory.subList((int) at, (int) at + n));
    }

    private List<Integer> key(int key, int k, int options) {
        if (options % 2 == 1) return bytes(key, k);
        List<Integer> bytes = new ArrayList<>();
        for (int i = k - 1; i >= 0; i--) bytes.add(key >> 8 * i & 255);
        return bytes;
    }

    private static boolean zeros(List<Integer> bytes) {
        return bytes.stream().allMatch(b -> b == 0);
    }

    private long linear(int[] a) {
        int k = a[1], start = a[2], width = a[3], n = a[4], offset = a[5], options = a[6];
        if (badSearch(k, start, offset, options) || width < 0 || n < -1) return BAD;
        List<Integer> key = key(a[0], k, options);
        if (key == null) return OUTSIDE;
        boolean index = (options & 4) != 0;
        for (long i = 0; n == -1 || i < n; i++) {
            if (i == 3000) return ENDLESS;
            long place = start + i * width;
            List<Integer> there = bytes(place + offset, k);
            if (there == null) return OUTSIDE;
            if (there.equals(key)) return index ? i : place;
            if ((options & 2) != 0 && zeros(there)) break;
        }
        return index ? -1 : 0;
    }

    private long binary(int[] a) {
        int k = a[1], start = a[2], width = a[3], n = a[4], offset = a[5], options = a[6];
        if (badSearch(k, start, offset, options) || width < 0 || n < 0 || (options & 2) != 0) return BAD;
        List<Integer> key = key(a[0], k, options);
        if (key == null) return OUTSIDE;
        boolean index = (options & 4) != 0;
        long low = 0, high = n;
        while (low < high) {
            long middle = (low + high) / 2;
            long place = start + middle * width;
            List<Integer> there = bytes(place + offset, k);
            if (there == null) return OUTSIDE;
            if (there.equals(key)) return index ? middle : place;
            int differs = 0;
            while (there.get(differs).equals(key.get(differs))) differs++;
            if (there.get(differs) < key.get(differs)) low = middle + 1;
            else high = middle;
        }
        return index ? -1 : 0;
    }

    private long linked(int[] a) {
        int k = a[1], start = a[2], offset = a[3], link = a[4], options = a[5];
        if (badSearch(k, start, offset, options) || link < 0 || (options & 4) != 0) return BAD;
        List<Integer> key = key(a[0], k, options);
        if (key == null) return OUTSIDE;
        long place = start;
        for (int seen = 0; place != 0; seen++) {
            if (seen == 3000) return ENDLESS;
            List<Integer> there = bytes(place + offset, k);
            if (there == null) return OUTSIDE;
            if (there.equals(key)) return place;
            if ((options & 2) != 0 && zeros(there)) return 0;
            List<Integer> next = bytes(place + link, 4);
            if (next == null) return OUTSIDE;
            place = 0;
            for (int b : next) place = place * 256 + b;
        }
        return 0;
    }

    private long protect(int at, int n) {
        if (at < 0 || at > 8192 || n < 0 || n > 8192) return BAD;
        protectedAt = at;
        protectedLength = n;
        return 1;
    }

    private long keep() {
        if (kept.size() == 4) return FULL;
        kept.push(world.twin());
        return kept.size();
    }

    private long back() {
        if (kept.isEmpty()) return BAD;
        comes(kept.pop());
        return kept.size();
    }

    private void comes(World then) {
        for (int i = protectedAt; i < protectedAt + protectedLength; i++) {
            if (i < then.memory.size() && i < world.memory.size()) then.memory.set(i, world.memory.get(i));
        }
        world = then;
    }

    private long same() {
        if (kept.isEmpty()) return BAD;
        World last = kept.peek();
        return last.memory.equals(world.memory) && last.start == world.start && last.blocks.equals(world.blocks) ? 1 : 0;
    }

    private static void pair(List<Integer> code, int v) {
        code.add(v / 256);
        code.add(v % 256);
    }

    private long write() {
        List<Integer> told = new ArrayList<>();
        pair(told, world.memory.size());
        pair(told, world.start);
        pair(told, world.blocks.size());
        world.blocks.forEach((place, length) -> {
            pair(told, place);
            pair(told, length);
        });
        int zeros = 0;
        for (int i = 0; i < world.memory.size(); i++) {
            int b = world.memory.get(i) ^ firstByte(i);
            if (b == 0) {
                zeros++;
                continue;
            }
            while (zeros > 0) {
                int row = Math.min(zeros, 256);
                told.add(0);
                told.add(row - 1);
                zeros -= row;
            }
            told.add(b);
        }
        code = told;
        return code.size();
    }

    private long poke(int i, int v) {
        if (i < 0 || i >= code.size() || v < 0 || v > 255) return BAD;
        return code.set(i, v);
    }

    private long cut(int n) {
        if (n < 0 || n > code.size()) return BAD;
        int gone = code.size() - n;
        code = new ArrayList<>(code.subList(0, n));
        return gone;
    }

    private int pairAt(int p) throws Wrong {
        if (p + 2 > code.size()) throw new Wrong(code.size());
        return code.get(p) * 256 + code.get(p + 1);
    }

    private static void need(boolean right, int place) throws Wrong {
        if (!right) throw new Wrong(place);
    }

    private long read() {
        try {
            comes(unfolded());
            return world.memory.size();
        } catch (Wrong wrong) {
            return -100 - wrong.place;
        }
    }

    private World unfolded() throws Wrong {
        World then = World.first();
        int size = pairAt(0);
        need(isSize(size), 0);
        then.sizeTo(size);
        then.start = pairAt(2);
        need(then.start == 0 || isSize(then.start) && then.start < size, 2);
        int used = pairAt(4);
        need(used <= 64 && (used == 0 ? then.start == 0 : then.start != 0), 4);
        int p = 6;
        int end = then.start;
        for (int i = 0; i < used; i++, p += 4) {
            int place = pairAt(p);
            need(place >= end, p);
            int length = pairAt(p + 2);
            end = place + length;
            need(length > 0 && end <= size, p + 2);
            then.blocks.put(place, length);
        }
        for (int at = 0; p < code.size(); ) {
            int b = code.get(p);
            need(at < size, p);
            if (b != 0) {
                need(at >= 64, p);
                then.memory.set(at, b ^ firstByte(at));
                at++;
                p++;
            } else {
                need(p + 1 < code.size(), p + 1);
                at += code.get(p + 1) + 1;
                need(at <= size, p);
                need(p + 2 < code.size(), p);
                p += 2;
            }
        }
        return then;
    }

    private long told(int what) {
        switch (what) {
            case 0: return world.memory.size();
            case 1: return world.start;
            case 2: return world.blocks.size();
            case 3: return world.blocks.values().stream().mapToInt(n -> n).sum();
            case 4: return world.gaps().size();
            case 5: return kept.size();
            case 6: return code.size();
            case 7: return protectedLength == 0 ? 0 : protectedAt;
            case 8: return protectedLength;
            default: return BAD;
        }
    }

    int size() {
        return world.memory.size();
    }

    int codeLength() {
        return code.size();
    }

    List<Integer> blockPlaces() {
        return new ArrayList<>(world.blocks.keySet());
    }
}
