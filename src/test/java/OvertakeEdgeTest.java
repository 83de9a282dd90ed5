/** "Overtaking": which message may go ahead of which one, in which lists, and that it must go ahead of all of them. */
public final class OvertakeEdgeTest {
    public static void main(String[] args) {
        behindAWrite();
        behindARead();
        behindAnAnswer();
        behindAnAnswerOfADevice();
        writeBehindAnAnswerOfADevice();
        allAheadOfIt();
        twoReadsAhead();
        firstOfThoseThatMay();
        edgesOfTheRoutersWindow();
        movedRouter();
        routerOnAnotherBus();
        withoutRouter();
        readOfTheRouterIsNoWrite();
        onlyListsOfBridges();
        notInTheCycleInWhichItCame();
        bothListsOfALooseBridge();
        countOfOvertaken();
        Check.end();
    }

    /**
     * A memory 0 on the bus 0 whose box is full until the cycle 25, so that writes and reads for it are held back:
     * agents 6 to 13 read it, and 15 keeps the bus. A bridge 1 with a memory or a processor 2, and processors 3 and 4
     * below; a processor 5 and a router 14 above.
     */
    private static BusHandler fullBox(boolean hasMemoryBelow) {
        BusHandler x = new BusHandler();
        x.addMemory(0, 0, 16);
        x.addBridge(0, 500, 100);
        if (hasMemoryBelow) {
            x.addMemory(1, 500, 16);
        } else {
            x.addProcessor(1);
        }
        x.addProcessor(1);
        x.addProcessor(1);
        x.addProcessor(0);
        for (int k = 6; k < 14; k++) {
            x.addProcessor(0);
            x.setRank(k, 7);
            x.addRead(k, k);
        }
        x.addRouter(0, 160);
        x.addProcessor(0);
        x.setRank(15, 1);
        for (int n = 0; n < 16; n++) {
            x.addWrite(15, 900, n);
        }
        x.setArbiter(0, true);
        x.setRank(1, 9);
        x.setRank(5, 8);
        x.run(9);
        Check.due("the box is full", x.inbox(0), 4);
        return x;
    }

    private static void upperIs(String what, BusHandler x, String messages) {
        Check.due(what, Check.lineOf(x, 1), "1 bridge bus0" + messages);
    }

    /** A write over a write, an answer over a write, a read over a write: none of them. */
    private static void behindAWrite() {
        BusHandler w = fullBox(true);
        w.addWrite(3, 1, 11);
        w.addWrite(3, 800, 0);
        w.run(8);
        upperIs("a write stays behind a write", w, " w1 w800");
        BusHandler a = fullBox(true);
        a.addWrite(3, 1, 11);
        a.addRead(5, 506);
        a.run(8);
        upperIs("an answer stays behind a write", a, " w1 a");
        BusHandler q = fullBox(true);
        q.addWrite(3, 1, 11);
        q.addRead(3, 800);
        q.run(8);
        upperIs("a read stays behind a write", q, " w1 q800");
        int asked = q.asksOf(1);
        q.run(3);
        Check.due("and the bridge asks again", q.asksOf(1), asked + 3);
    }

    /** A write over a read and an answer over a read go, a read over a read does not. */
    private static void behindARead() {
        BusHandler w = fullBox(true);
        w.addRead(3, 1);
        w.run(2);
        w.addWrite(4, 800, 0);
        w.run(4);
        upperIs("a write goes ahead of a read", w, " q1");
        BusHandler a = fullBox(true);
        a.addRead(3, 1);
        a.run(2);
        a.addRead(5, 506);
        a.run(5);
        upperIs("an answer goes ahead of a read", a, " q1");
        Check.due("and is there", a.readsOf(5), 1);
        BusHandler q = fullBox(true);
        q.addRead(3, 1);
        q.run(2);
        q.addRead(4, 800);
        q.run(6);
        upperIs("a read stays behind a read", q, " q1 q800");
    }

    /**
     * Bridges 0 to the bus 1 and 1 to the bus 2, both below the bus 0. Blockers 10 to 13 keep the bus 2, so that of
     * five answers for it the fifth one is held back, in the list of the bridge 0 that leads up.
     */
    private static BusHandler heldAnswer() {
        BusHandler x = new BusHandler();
        x.addBridge(0, 200, 100);
        x.addBridge(0, 500, 100);
        x.addMemory(1, 200, 16);
        x.addProcessor(1);
        x.addProcessor(0);
        for (int k = 5; k < 14; k++) {
            x.addProcessor(2);
            x.setRank(k, k < 10 ? 9 : 8);
            for (int n = 0; n < 16; n++) {
                if (k >= 10) {
                    x.addWrite(k, 590, n);
                }
            }
        }
        for (int k = 5; k < 10; k++) {
            x.addRead(k, 200 + k);
        }
        x.setArbiter(2, true);
        x.run(20);
        Check.due("an answer is held back", Check.lineOf(x, 0), "0 bridge bus0 a");
        Check.due("for there are four ahead of it", Check.lineOf(x, 1), "1 bridge bus0 a a a a");
        return x;
    }

    /** A write goes over an answer, an answer or a read does not. */
    private static void behindAnAnswer() {
        BusHandler w = heldAnswer();
        w.addWrite(3, 900, 0);
        w.run(3);
        Check.due("a write goes ahead of an answer", w.lost(), 18);
        Check.due("which stays", Check.lineOf(w, 0), "0 bridge bus0 a");
        BusHandler a = heldAnswer();
        a.addRead(4, 203);
        a.run(8);
        Check.due("an answer stays behind an answer", Check.lineOf(a, 0), "0 bridge bus0 a a");
        Check.due("though it could be taken", a.readsOf(4), 0);
        BusHandler q = heldAnswer();
        q.addRead(3, 900);
        q.run(8);
        Check.due("a read stays behind an answer", Check.lineOf(q, 0), "0 bridge bus0 a q900");
        q.addWrite(4, 590, 1);
        q.run(2);
        Check.due("a write goes where answers can't", Check.lineOf(q, 1), "1 bridge bus0 a a a a w590");
    }

    /** A device 0 at 100 and a bridge 1, whose lower list is full of answers; 4 to 8 read it from below. */
    private static BusHandler heldAnswerOfADevice() {
        BusHandler x = new BusHandler();
        x.addDevice(0, 100);
        x.addBridge(0, 500, 100);
        x.addMemory(0, 0, 32);
        x.addProcessor(0);
        for (int k = 4; k < 13; k++) {
            x.addProcessor(1);
            x.setRank(k, k < 9 ? 9 : 8);
            for (int n = 0; n < 16; n++) {
                if (k >= 9) {
                    x.addWrite(k, 590, n);
                }
            }
        }
        for (int k = 4; k < 8; k++) {
            x.addRead(k, 102);
        }
        x.setArbiter(1, true);
        x.addProcessor(0);
        x.run(12);
        Check.due("four answers", Check.lineOf(x, 1), "1 bridge bus0 a a a a");
        return x;
    }

    private static void behindAnAnswerOfADevice() {
        BusHandler x = heldAnswerOfADevice();
        x.addRead(8, 102);
        x.run(4);
        Check.due("the fifth one is held back", Check.lineOf(x, 0), "0 device bus0 a");
        x.addRead(3, 103);
        x.run(5);
        Check.due("an answer stays behind it", Check.lineOf(x, 0), "0 device bus0 a a");
        x.addWrite(13, 102, 1);
        x.addWrite(13, 100, 1);
        x.run(6);
        Check.due("and a read", Check.lineOf(x, 0), "0 device bus0 a a q0");
    }

    private static void writeBehindAnAnswerOfADevice() {
        BusHandler x = heldAnswerOfADevice();
        x.put(2, 0, 1);
        x.put(2, 1, 16);
        x.put(2, 2, 8);
        for (int n = 0; n < 8; n++) {
            x.load(0, 71 + n);
        }
        x.addWrite(3, 102, 1);
        x.addWrite(3, 100, 1);
        x.run(8);
        x.addRead(8, 102);
        x.run(4);
        Check.due("it writes, with an answer held back", Check.lineOf(x, 0), "0 device bus0 a w16");
        x.run(15);
        Check.due("which stays", Check.lineOf(x, 0), "0 device bus0 a");
        Check.due("all writes went ahead of it", x.cellAt(2, 23), 78);
        Check.due("also the last one", x.cellAt(2, 2), 8);
        Check.due("no write was overtaken", x.overtaken(), 0);
    }

    /** "May overtake all messages ahead of it": not only the first one, nor only the last one. */
    private static void allAheadOfIt() {
        BusHandler a = fullBox(true);
        a.addRead(3, 1);
        a.addWrite(4, 2, 9);
        a.addRead(5, 506);
        a.run(6);
        upperIs("an answer behind a read and a write", a, " q1 w2 a");
        a.run(4);
        upperIs("may not go", a, " q1 w2 a");
        BusHandler w = fullBox(true);
        w.addRead(3, 1);
        w.addWrite(4, 2, 9);
        w.addWrite(4, 800, 1);
        w.run(8);
        upperIs("nor a write behind a read and a write", w, " q1 w2 w800");
        BusHandler b = fullBox(false);
        b.addWrite(3, 2, 9);
        b.run(2);
        b.addRead(4, 1);
        b.run(2);
        b.addWrite(2, 800, 9);
        b.run(6);
        upperIs("nor a write behind a write and a read", b, " w2 q1 w800");
    }

    private static void twoReadsAhead() {
        BusHandler a = fullBox(true);
        a.addRead(3, 1);
        a.addRead(4, 2);
        a.run(4);
        upperIs("two reads", a, " q1 q2");
        a.addRead(5, 506);
        a.run(5);
        upperIs("an answer goes ahead of both", a, " q1 q2");
        Check.due("and is there", a.readsOf(5), 1);
        BusHandler w = fullBox(false);
        w.addRead(3, 1);
        w.addRead(4, 2);
        w.run(4);
        w.addWrite(2, 161, 1);
        w.run(3);
        upperIs("a write goes ahead of both", w, " q1 q2");
        Check.due("and is there", w.pending(1), 1);
        Check.due("reads do not count", w.overtaken(), 0);
    }

    /** "The offer is the first message in it." */
    private static void firstOfThoseThatMay() {
        BusHandler x = fullBox(true);
        x.setRank(1, 0);
        x.addRead(3, 1);
        x.run(2);
        x.addWrite(4, 801, 0);
        x.addWrite(4, 802, 0);
        x.run(4);
        upperIs("two writes could go", x, " q1 w801 w802");
        x.setRank(1, 9);
        x.run(1);
        upperIs("the first one goes", x, " q1 w802");
        x.run(1);
        upperIs("then the second one", x, " q1");
        BusHandler y = fullBox(false);
        y.setRank(1, 0);
        y.addRead(3, 800);
        y.run(2);
        y.addWrite(4, 801, 0);
        y.run(3);
        upperIs("the first message can go itself", y, " q800 w801");
        y.setRank(1, 9);
        y.run(1);
        upperIs("so it goes first, and its answer leads down", y, " w801 a");
    }

    /** "And its address is in the window of the router": 160 to 167. */
    private static void edgesOfTheRoutersWindow() {
        for (int address : new int[] {159, 160, 161, 166, 167, 168}) {
            boolean isInside = address >= 160 && address <= 167;
            BusHandler x = fullBox(true);
            x.setLoose(1, true);
            x.addWrite(3, 1, 11);
            x.addWrite(3, address, 0);
            x.run(8);
            upperIs("behind a write, to " + address, x, isInside ? " w1" : " w1 w" + address);
            Check.due("overtaken", x.overtaken(), isInside ? 1 : 0);
            Check.due("the bell", x.rung(), isInside ? 1 : 0);
            BusHandler y = fullBox(true);
            y.addWrite(3, 1, 11);
            y.addWrite(3, address, 0);
            y.run(8);
            upperIs("a strict bridge", y, " w1 w" + address);
        }
    }

    private static void movedRouter() {
        BusHandler x = fullBox(true);
        x.setLoose(1, true);
        x.addWrite(3, 1, 11);
        x.addWrite(3, 159, 0);
        x.run(5);
        upperIs("beside the window", x, " w1 w159");
        x.moveWindow(14, 152);
        x.run(1);
        upperIs("inside it now", x, " w1");
        Check.due("for its last vector", x.pending(7), 1);
    }

    /** "Its address is in the window of the router", on whatever bus that is: "there is at most one router". */
    private static void routerOnAnotherBus() {
        BusHandler x = new BusHandler();
        x.addBridge(0, 500, 100);
        x.setLoose(0, true);
        x.addRouter(1, 700);
        x.addMemory(0, 0, 16);
        x.addProcessor(1);
        x.setArbiter(0, true);
        x.setRank(0, 9);
        for (int k = 4; k < 12; k++) {
            x.addProcessor(0);
            x.setRank(k, 7);
            x.addRead(k, k);
        }
        x.addProcessor(0);
        for (int n = 0; n < 16; n++) {
            x.addWrite(12, 900, n);
        }
        x.setRank(12, 1);
        x.run(9);
        Check.due("the box is full", x.inbox(2), 4);
        x.addWrite(3, 1, 0);
        x.run(2);
        x.addWrite(3, 700, 0);
        x.run(3);
        Check.due("a write to the router does not come up", Check.lineOf(x, 0), "0 bridge bus0 w1");
        Check.due("it is there", x.pending(0), 1);
        x.addWrite(3, 800, 0);
        x.run(2);
        Check.due("another one stays behind", Check.lineOf(x, 0), "0 bridge bus0 w1 w800");
        x.moveWindow(1, 800);
        x.run(1);
        Check.due("in the window of the router it may go", Check.lineOf(x, 0), "0 bridge bus0 w1");
        Check.due("one was overtaken", x.overtaken(), 1);
        Check.due("though on its bus it is nobody's", x.pending(0), 1);
    }

    private static void withoutRouter() {
        BusHandler x = new BusHandler();
        x.addBridge(0, 500, 100);
        x.setLoose(0, true);
        x.addMemory(0, 0, 16);
        x.addProcessor(1);
        x.setArbiter(0, true);
        x.setRank(0, 9);
        for (int k = 3; k < 11; k++) {
            x.addProcessor(0);
            x.setRank(k, 7);
            x.addRead(k, k);
        }
        x.addProcessor(0);
        for (int n = 0; n < 16; n++) {
            x.addWrite(11, 900, n);
        }
        x.setRank(11, 1);
        x.run(9);
        x.addWrite(2, 1, 0);
        x.addWrite(2, 160, 0);
        x.run(6);
        Check.due("without a router no write is overtaken", Check.lineOf(x, 0), "0 bridge bus0 w1 w160");
        x.addRouter(0, 160);
        x.run(1);
        Check.due("with one it is", Check.lineOf(x, 0), "0 bridge bus0 w1");
        Check.due("overtaken", x.overtaken(), 1);
    }

    /** "If both are writes": a read of the router stays. */
    private static void readOfTheRouterIsNoWrite() {
        BusHandler x = fullBox(true);
        x.setLoose(1, true);
        x.addWrite(3, 1, 11);
        x.addRead(3, 161);
        x.run(8);
        upperIs("a read of the router", x, " w1 q161");
        Check.due("none was overtaken", x.overtaken(), 0);
    }

    /** "The list is one of a loose bridge": the list of a processor is none. */
    private static void onlyListsOfBridges() {
        BusHandler x = fullBox(true);
        x.setLoose(1, true);
        x.addWrite(5, 1, 11);
        x.addWrite(5, 161, 0);
        x.run(8);
        Check.due("in the list of a processor", Check.lineOf(x, 5), "5 processor bus0 w1 w161");
        Check.due("none was overtaken", x.overtaken(), 0);
    }

    /** A bridge 0 and a memory 1 below, whose box is full; a router 2 below, processors 3 and 13 above. */
    private static BusHandler fullBoxBelow() {
        BusHandler x = new BusHandler();
        x.addBridge(0, 500, 100);
        x.addMemory(1, 500, 16);
        x.addRouter(1, 560);
        x.addProcessor(0);
        x.setArbiter(1, true);
        x.setRank(0, 9);
        for (int k = 4; k < 12; k++) {
            x.addProcessor(1);
            x.setRank(k, 7);
            x.addRead(k, 500 + k);
        }
        x.addProcessor(1);
        for (int n = 0; n < 16; n++) {
            x.addWrite(12, 590, n);
        }
        x.setRank(12, 1);
        x.addProcessor(0);
        x.run(9);
        Check.due("the box is full", x.inbox(1), 4);
        return x;
    }

    /** "That came into it in an earlier cycle": the bus 1 has its turn behind the bus 0, but not for what just came. */
    private static void notInTheCycleInWhichItCame() {
        BusHandler x = fullBoxBelow();
        x.addRead(3, 501);
        x.run(2);
        x.addWrite(13, 599, 0);
        x.run(2);
        Check.due("the write has come", Check.lineOf(x, 0), "0 bridge bus0 q501 w599");
        x.run(1);
        Check.due("and goes in the next cycle", Check.lineOf(x, 0), "0 bridge bus0 q501");
    }

    /** The write that is held back leads down; the other list of the bridge is empty. */
    private static void bothListsOfALooseBridge() {
        BusHandler x = fullBoxBelow();
        x.addWrite(3, 501, 0);
        x.addWrite(3, 560, 0);
        x.addWrite(3, 567, 0);
        x.addWrite(3, 568, 0);
        x.run(6);
        Check.due("strict", Check.lineOf(x, 0), "0 bridge bus0 w501 w560 w567 w568");
        x.setLoose(0, true);
        x.run(3);
        Check.due("loose", Check.lineOf(x, 0), "0 bridge bus0 w501 w568");
        Check.due("once each", x.overtaken(), 2);
        Check.due("all is in order, for a bridge has been loose", x.isConsistent(), true);
        x.setLoose(0, false);
        Check.due("also when it is strict again", x.isConsistent(), true);
    }

    /** "When a write goes, once for each write that is ahead of it in its list." */
    private static void countOfOvertaken() {
        for (int ahead = 0; ahead <= 3; ahead++) {
            BusHandler x = fullBox(true);
            x.setLoose(1, true);
            for (int n = 0; n < ahead; n++) {
                x.addWrite(3, 1 + n, 0);
            }
            x.addWrite(3, 161, 0);
            x.run(ahead + 2);
            Check.due("not before it goes", x.overtaken(), 0);
            x.run(1);
            Check.due("once for each write ahead", x.overtaken(), ahead);
            Check.due("it is there", x.pending(1), 1);
        }
        BusHandler y = fullBox(true);
        y.setLoose(1, true);
        y.addWrite(3, 1, 0);
        y.addRead(3, 800);
        y.addRead(5, 506);
        y.run(6);
        upperIs("a write, an answer and a read", y, " w1 a q800");
        y.addWrite(4, 161, 0);
        y.run(3);
        upperIs("are overtaken", y, " w1 a q800");
        Check.due("but the write alone counts", y.overtaken(), 1);
    }
}
