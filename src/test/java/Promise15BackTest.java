@Case("promise 15, back")
public final class Promise15BackTest {
    public static void main(String[] arguments) {
        Cases.run(Promise15BackTest.class);
    }

    @Case("BAD: none is KEPT, at first and when all CAME BACK")
    static void bad() {
        Run run = new Run();
        run.refused(Run.BAD, "back");
        run.due(1, "set", 100, 1, 5);
        run.due(1, "keep");
        run.due(0, "back");
        run.due(1, "set", 100, 1, 6);
        run.refused(Run.BAD, "back");
        run.bytesAre(100, 6);
    }

    @Case("the one that was KEPT last COMES BACK, then the one ahead of it: how many are KEPT yet, 3 to 0")
    static void lastFirst() {
        Run run = new Run();
        for (int i = 1; i <= 4; i++) {
            run.due(1, "set", 100, 1, i);
            run.due(i, "keep");
        }
        run.due(1, "set", 100, 1, 9);
        for (int i = 4; i >= 1; i--) {
            run.due(i - 1, "back");
            run.bytesAre(100, i);
            run.due(i - 1, "told", 5);
        }
        run.refused(Run.BAD, "back");
    }

    @Case("it is KEPT no more: what is done behind it does not come to those that are KEPT")
    static void noMore() {
        Run run = new Run();
        run.due(1, "set", 100, 1, 1);
        run.due(1, "keep");
        run.due(1, "set", 100, 1, 2);
        run.due(2, "keep");
        run.due(1, "back");
        run.due(1, "set", 100, 1, 3);
        run.due(2, "keep");
        run.due(1, "set", 100, 1, 4);
        run.due(1, "back");
        run.bytesAre(100, 3);
        run.due(0, "back");
        run.bytesAre(100, 1);
    }

    @Case("all is as it was there: MEMORY, SIZE and THE HEAP with its GAPS")
    static void allIsAsItWas() {
        Run run = new Run();
        run.due(1024, "resize", 512);
        run.due(512, "make", 10);
        run.due(522, "make", 20);
        run.due(542, "make", 300);
        run.due(20, "free", 522);
        run.due(1, "set", 530, 4, 5);
        run.due(1, "keep");
        run.due(10, "free", 512);
        run.due(300, "free", 542);
        run.due(512, "resize", 8192);
        run.due(1, "set", 8000, 4, -1);
        run.due(0, "back");
        run.heapIs(1024, 512, 512, 10, 542, 300);
        run.due(20, "block", 0, 2);
        run.due(5, "get", 530, 4);
        run.due(Run.OUTSIDE, "get", 1024, 1);
        run.due(522, "make", 20);
        run.due(842, "make", 183);
        run.due(1280, "told", 0);
        run.due(0, "get", 1276, 4);
    }

    @Case("from no HEAP to one, and from one to none")
    static void heapAndNone() {
        Run run = new Run();
        run.due(1, "keep");
        run.due(1024, "make", 5);
        run.due(2, "keep");
        run.due(5, "free", 1024);
        run.due(1, "back");
        run.heapIs(1280, 1024, 1024, 5);
        run.due(0, "back");
        run.heapIs(1024, 0);
        run.due(1024, "resize", 256);
    }

    @Case("PROTECTED bytes stay as they are now: the first and the last of them, not those beside them")
    static void protectedBytes() {
        Run run = new Run();
        run.due(1, "protect", 101, 2);
        run.due(1, "set", 100, 4, 0x01020304);
        run.due(1, "keep");
        run.due(1, "set", 100, 4, 0x05060708);
        run.due(0, "back");
        run.bytesAre(100, 1, 6, 7, 4);
    }

    @Case("the stretch counts that is PROTECTED now, not the one when the STATE was KEPT")
    static void protectedNow() {
        Run run = new Run();
        run.due(1, "protect", 100, 1);
        run.due(1, "set", 100, 2, 0x0102);
        run.due(1, "keep");
        run.due(1, "protect", 101, 1);
        run.due(1, "set", 100, 2, 0x0304);
        run.due(0, "back");
        run.bytesAre(100, 1, 4);
        run.due(101, "told", 7);
        run.due(1, "told", 8);
    }

    @Case("PROTECTED bytes that MEMORY has now but had not then are gone; the last one that it had then stays")
    static void smallerThen() {
        Run run = new Run();
        run.due(1, "protect", 500, 8192);
        run.due(1024, "resize", 512);
        run.due(1, "keep");
        run.due(512, "resize", 1024);
        run.due(1, "set", 510, 4, 0x05060708);
        run.due(0, "back");
        run.due(512, "told", 0);
        run.bytesAre(510, 5, 6);
        run.due(Run.OUTSIDE, "get", 512, 1);
        run.due(512, "resize", 1024);
        run.bytesAre(510, 5, 6, 0, 0);
    }

    @Case("PROTECTED bytes that MEMORY has not now come back as they were then; the last one that it has stays")
    static void smallerNow() {
        Run run = new Run();
        run.due(1, "protect", 500, 8192);
        run.due(1, "set", 510, 4, 0x01020304);
        run.due(1, "set", 1023, 1, 9);
        run.due(1, "keep");
        run.due(1024, "resize", 512);
        run.due(1, "set", 510, 2, 0x0506);
        run.due(0, "back");
        run.bytesAre(510, 5, 6, 3, 4);
        run.bytesAre(1023, 9);
    }

    @Case("a stretch that begins where MEMORY ends, now or then, protects nothing")
    static void stretchBehind() {
        Run run = new Run();
        run.due(1, "protect", 512, 4);
        run.due(1, "set", 508, 4, 1);
        run.due(1, "set", 512, 4, 2);
        run.due(1, "keep");
        run.due(1024, "resize", 512);
        run.due(1, "set", 508, 4, 3);
        run.due(0, "back");
        run.due(1, "get", 508, 4);
        run.due(2, "get", 512, 4);
    }

    @Case("PROTECTED bytes of THE HEAP stay, while its BLOCKS are as they were then")
    static void protectedHeap() {
        Run run = new Run();
        run.due(1024, "make", 10);
        run.due(1034, "make", 20);
        run.due(1, "set", 1030, 4, 5);
        run.due(1, "protect", 1032, 4);
        run.due(1, "keep");
        run.due(10, "free", 1024);
        run.due(20, "free", 1034);
        run.due(1024, "resize", 512);
        run.due(512, "make", 600);
        run.due(1, "set", 1030, 4, -1);
        run.due(1, "set", 1034, 4, -1);
        run.due(0, "back");
        run.heapIs(1280, 1024, 1024, 10, 1034, 20);
        run.bytesAre(1030, 0, 0, 255, 255, 255, 255, 0, 0);
    }

    @Case("CODE and the PROTECTED stretch stay")
    static void othersStay() {
        Run run = new Run();
        run.due(1, "keep");
        run.due(1, "protect", 100, 4);
        run.due(1, "set", 64, 1, 5);
        run.due(9, "write");
        run.due(0, "back");
        run.codeIs(0, 4, 0, 0, 0, 0, 0, 0, 63, 5);
        run.due(100, "told", 7);
        run.due(4, "told", 8);
    }
}
