/** "Waiting" and the promises 54 and 55: lists and boxes by their numbers, and which ring of them is told. */
public final class WaitingEdgeTest {
    public static void main(String[] args) {
        noRing();
        indicesOfARing();
        numbersOfTheLastAgent();
        boxOfTheLastAgent();
        lastMessageThatCouldGo();
        roomForTheFirstMessage();
        waitingWithoutARing();
        waitingForARing();
        lowestOfTwoRings();
        messagesOfThisCycle();
        ringThatEnds();
        fullBoxIsNoRing();
        Check.end();
    }

    private static void noRing() {
        BusHandler x = new BusHandler();
        Check.due("no agents", x.ringLength(), 0);
        for (int index : new int[] {-1, 0, 1, 47, 48, Integer.MIN_VALUE, Integer.MAX_VALUE}) {
            Check.thrown("no index " + index, Check.MISSING, () -> x.ringAt(index));
        }
        for (int b = 0; b < 3; b++) {
            x.addBridge(b, 100, 100);
        }
        x.addMemory(3, 0, 8);
        x.addProcessor(3);
        x.addWrite(4, 500, 1);
        for (int n = 0; n < 6; n++) {
            x.run(1);
            Check.due("a message on its way", x.ringLength(), 0);
        }
    }

    /**
     * A bridge 0, both lists of which are full of writes if 4 are told: those to 210 and so on lead down, those to 410
     * and so on lead up. As the window moves to 400, each list leads into the other one.
     */
    private static BusHandler crossed(int writesDown, int writesUp, int lastUp) {
        BusHandler x = new BusHandler();
        x.addBridge(0, 200, 100);
        for (int k = 1; k < 5; k++) {
            x.addProcessor(k < 3 ? 0 : 1);
            x.setRank(k, k % 2 == 1 ? 9 : 8);
        }
        for (int n = 0; n < 4; n++) {
            if (n < writesDown) {
                x.addWrite(1, 210 + n, n);
            }
            if (n < writesUp) {
                x.addWrite(3, n < 3 ? 410 + n : lastUp, n);
            }
        }
        for (int n = 0; n < 16; n++) {
            x.addWrite(2, 900, n);
            x.addWrite(4, 250, n);
        }
        x.setArbiter(0, true);
        x.setArbiter(1, true);
        x.run(5);
        return x;
    }

    /** "The index, from 0": up to the length, and not behind it. */
    private static void indicesOfARing() {
        BusHandler x = crossed(4, 4, 413);
        Check.due("they can go", x.ringLength(), 0);
        Check.thrown("no index 0", Check.MISSING, () -> x.ringAt(0));
        x.moveWindow(0, 400);
        Check.due("two lists", x.ringLength(), 2);
        Check.due("the list that leads up", x.ringAt(0), 0);
        Check.due("the list that leads down", x.ringAt(1), 1);
        for (int index : new int[] {-1, 2, 3, Integer.MIN_VALUE, Integer.MAX_VALUE}) {
            Check.thrown("no index " + index, Check.MISSING, () -> x.ringAt(index));
        }
        Check.due("a look changes nothing", Check.ringOf(x), "0 1");
    }

    /**
     * "The list of the agent k has 2 * k, the list of a bridge that leads down 2 * k + 1": 30 and 31 for a bridge 15.
     * Its window moves with each write that comes down, so that this leads up again in the next cycle.
     */
    private static void numbersOfTheLastAgent() {
        BusHandler x = new BusHandler();
        for (int k = 0; k < 15; k++) {
            x.addProcessor(0);
        }
        x.addBridge(0, 200, 10);
        x.setArbiter(0, true);
        x.setRank(0, 9);
        for (int n = 0; n < 8; n++) {
            x.addWrite(0, 300 + 10 * n, n);
        }
        x.run(1);
        for (int n = 0; n < 8; n++) {
            x.moveWindow(15, 300 + 10 * n);
            x.run(1);
        }
        Check.due("both lists are full", Check.lineOf(x, 15),
            "15 bridge bus0 w300 w310 w320 w330 w340 w350 w360 w370");
        Check.due("but the upper one can go", x.ringLength(), 0);
        x.moveWindow(15, 300);
        Check.due("now it leads down", Check.ringOf(x), "30 31");
        x.run(20);
        Check.due("where there is no room", Check.ringOf(x), "30 31");
    }

    /** Up list, down list, box 47 and list 30 of a memory that is the agent 15. */
    private static void boxOfTheLastAgent() {
        BusHandler x = new BusHandler();
        x.addBridge(0, 200, 100);
        x.addProcessor(1);
        for (int k = 2; k < 15; k++) {
            x.addProcessor(0);
            x.setRank(k, k < 11 ? 9 : k == 11 ? 5 : 1);
        }
        x.addMemory(1, 200, 16);
        x.setRank(15, 9);
        x.setArbiter(0, true);
        x.setArbiter(1, true);
        x.addWrite(1, 410, 1);
        for (int k = 2; k < 11; k++) {
            x.addRead(k, 200 + k);
        }
        for (int n = 0; n < 32; n++) {
            x.addWrite(12 + n % 2, 900, n);
        }
        x.run(22);
        for (int n = 0; n < 8; n++) {
            x.addWrite(11, 200, n);
        }
        x.run(13);
        Check.due("the box is full", x.inbox(15), 4);
        Check.due("the list of the memory is full", x.listLength(15, false), 4);
        Check.due("the write could go", x.ringLength(), 0);
        x.moveWindow(0, 400);
        Check.due("the ring", Check.ringOf(x), "0 1 47 30");
        Check.due("its length", x.ringLength(), 4);
        Check.thrown("no index 4", Check.MISSING, () -> x.ringAt(4));
    }

    /** "None of them could go": the last one of four could, in a loose bridge. */
    private static void lastMessageThatCouldGo() {
        BusHandler x = crossed(4, 4, 161);
        x.addRouter(0, 160);
        x.moveWindow(0, 400);
        Check.due("strict, none could go", Check.ringOf(x), "0 1");
        x.setLoose(0, true);
        Check.due("loose, the last one could", x.ringLength(), 0);
        x.setLoose(0, false);
        Check.due("strict again", Check.ringOf(x), "0 1");
    }

    /** "The list or the box in which there is no room for its first message": 3 writes leave room for a fourth one. */
    private static void roomForTheFirstMessage() {
        int[][] writes = {{3, 4}, {4, 3}, {3, 3}, {0, 4}, {4, 0}, {0, 0}};
        for (int[] pair : writes) {
            BusHandler x = crossed(pair[0], pair[1], 413);
            x.moveWindow(0, 400);
            Check.due("writes down", x.listLength(0, true), pair[0]);
            Check.due("writes up", x.listLength(0, false), pair[1]);
            Check.due("there is room in one of them", x.ringLength(), 0);
        }
    }

    /** A list that waits for another one that can go is in no ring. */
    private static void waitingWithoutARing() {
        BusHandler x = crossed(4, 4, 413);
        x.addWrite(1, 220, 0);
        x.run(2);
        int asked = x.asksOf(1);
        x.run(1);
        Check.due("it has no room", x.asksOf(1), asked + 1);
        Check.due("but what it waits for can go", x.ringLength(), 0);
    }

    /** The list 0 of a processor waits for the ring of the bridge 1, but is not in it. */
    private static void waitingForARing() {
        BusHandler x = new BusHandler();
        x.addProcessor(0);
        x.addBridge(0, 200, 100);
        for (int k = 2; k < 5; k++) {
            x.addProcessor(k == 2 ? 0 : 1);
            x.setRank(k, k == 3 ? 9 : 8);
        }
        x.setRank(0, 9);
        for (int n = 0; n < 4; n++) {
            x.addWrite(0, 210, n);
            x.addWrite(3, 410, n);
        }
        x.addWrite(0, 410, 5);
        for (int n = 0; n < 16; n++) {
            x.addWrite(2, 900, n);
            x.addWrite(4, 250, n);
        }
        x.setArbiter(0, true);
        x.setArbiter(1, true);
        x.run(5);
        x.moveWindow(1, 400);
        x.run(1);
        Check.due("the processor waits", Check.lineOf(x, 0), "0 processor bus0 w410");
        int asked = x.asksOf(0);
        x.run(1);
        Check.due("it has no offer", x.asksOf(0), asked + 1);
        Check.due("the ring is that of the bridge", Check.ringOf(x), "2 3");
    }

    /** "The one with the lowest number in it." */
    private static void lowestOfTwoRings() {
        BusHandler x = new BusHandler();
        for (int b = 0; b < 2; b++) {
            x.addBridge(0, 200 + 200 * b, 50);
            for (int k = 0; k < 3; k++) {
                x.addProcessor(k == 0 ? 0 : 1 + b);
                x.setRank(4 * b + 1 + k, k == 2 ? 8 : 9);
            }
            for (int n = 0; n < 16; n++) {
                if (n < 4) {
                    x.addWrite(4 * b + 1, 200 + 200 * b, n);
                    x.addWrite(4 * b + 2, 700 + 100 * b, n);
                }
                x.addWrite(4 * b + 3, 240 + 200 * b, n);
            }
            x.setArbiter(1 + b, true);
        }
        x.setArbiter(0, true);
        x.run(9);
        Check.due("no ring yet", x.ringLength(), 0);
        x.moveWindow(4, 800);
        Check.due("the greater one alone", Check.ringOf(x), "8 9");
        x.moveWindow(0, 700);
        Check.due("the lowest number of both", Check.ringOf(x), "0 1");
        Check.due("only this one is told", x.ringLength(), 2);
        x.moveWindow(4, 400);
        Check.due("the lower one alone", Check.ringOf(x), "0 1");
        x.moveWindow(0, 200);
        Check.due("none", x.ringLength(), 0);
    }

    /** "Whenever it came": also when all of them came in the last cycle, or the last one did. */
    private static void messagesOfThisCycle() {
        BusHandler x = crossed(3, 4, 413);
        x.addWrite(1, 213, 0);
        x.run(1);
        x.moveWindow(0, 400);
        Check.due("three writes lead down", x.listLength(0, true), 3);
        x.moveWindow(0, 200);
        x.run(1);
        Check.due("the fourth one has just come", x.listLength(0, true), 4);
        x.moveWindow(0, 400);
        Check.due("and counts", Check.ringOf(x), "0 1");
    }

    private static void ringThatEnds() {
        BusHandler x = crossed(4, 4, 413);
        x.moveWindow(0, 400);
        x.run(30);
        Check.due("it stays", Check.ringOf(x), "0 1");
        Check.due("nothing went through the bridge", x.listLength(0, false) + x.listLength(0, true), 8);
        x.moveWindow(0, 411);
        Check.due("the first write up can go now", x.ringLength(), 0);
        x.moveWindow(0, 400);
        Check.due("not any more", x.ringLength(), 2);
        x.moveWindow(0, 200);
        x.run(30);
        Check.due("all have gone", x.listLength(0, false) + x.listLength(0, true), 0);
        Check.due("no ring", x.ringLength(), 0);
    }

    /** "A box waits for the list of its memory"; but this can go, so that there is no ring. */
    private static void fullBoxIsNoRing() {
        BusHandler x = new BusHandler();
        x.addMemory(0, 0, 16);
        x.setArbiter(0, true);
        for (int k = 1; k < 11; k++) {
            x.addProcessor(0);
            x.setRank(k, k < 10 ? 9 : 1);
        }
        for (int k = 1; k < 10; k++) {
            x.addRead(k, k);
        }
        for (int n = 0; n < 16; n++) {
            x.addWrite(10, 900, n);
        }
        x.run(12);
        Check.due("4 answers", x.listLength(0, false), 4);
        Check.due("4 reads in the box", x.inbox(0), 4);
        Check.due("one read waits for the box", x.listLength(9, false), 1);
        Check.due("no ring", x.ringLength(), 0);
    }
}
