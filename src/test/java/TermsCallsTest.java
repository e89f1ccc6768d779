@Case("what it is, 512 calls")
public final class TermsCallsTest {
    public static void main(String[] arguments) {
        Cases.run(TermsCallsTest.class);
    }

    @Case("the 512th call answers as told: bytes")
    static void bytes() {
        Run run = new Run();
        for (int i = 0; i < 255; i++) {
            run.due(1, "set", 100 + i, 1, i);
            run.due(i, "get", 100 + i, 1);
        }
        run.due(0, "get", 100, 1);
        run.due(254, "get", 354, 1);
    }

    @Case("the 512th call answers as told: BLOCKS that are made and freed")
    static void heap() {
        Run run = new Run();
        for (int i = 0; i < 128; i++) {
            run.due(1024, "make", 7168);
            run.due(0, "make", 1);
            run.due(7168, "free", 1024);
            run.due(1024, "told", 0);
        }
    }

    @Case("the 512th call answers as told: STATES that are KEPT and COME BACK")
    static void states() {
        Run run = new Run();
        for (int i = 0; i < 64; i++) {
            for (int kept = 1; kept <= 4; kept++) {
                run.due(kept, "keep");
            }
            for (int kept = 3; kept >= 0; kept--) {
                run.due(kept, "back");
            }
        }
    }

    @Case("the 512th call answers as told: CODE that is written and read, and restarts")
    static void code() {
        Run run = new Run();
        run.due(1024, "resize", 8192);
        run.due(1, "set", 8191, 1, 5);
        for (int i = 0; i < 170; i++) {
            run.due(6 + 64 + 1, "write");
            run.due(1, "restart");
            run.due(8192, "read");
        }
    }

    @Case("the 512th call answers as told: searches that are ENDLESS")
    static void searches() {
        Run run = new Run();
        run.due(1, "set", 103, 1, 100);
        for (int i = 0; i < 255; i++) {
            run.due(Run.ENDLESS, "linked", 9, 1, 100, 3, 0, 0);
            run.due(Run.ENDLESS, "linear", 9, 1, 103, 0, -1, 0, 0);
        }
        run.due(103, "linear", 100, 1, 103, 0, -1, 0, 0);
    }

    @Case("what later calls answer is free, but none of them throws")
    static void later() {
        Run run = new Run();
        for (int i = 0; i < 300; i++) {
            run.any("make", 1 + i % 50);
            run.any("set", 64 + i, 4, i);
            run.any("keep");
            run.any("write");
            run.any("read");
            run.any("linked", 9, 1, 64 + i, 0, 4, 0);
            run.any("free", 1024);
            if (i % 5 == 4) {
                run.any("back");
            }
        }
    }
}
