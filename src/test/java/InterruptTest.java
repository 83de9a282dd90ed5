/** Promises 35 to 43, and 52: cells and their log, vectors and lines, and interrupts that are taken early. */
public final class InterruptTest {
    public static void main(String[] args) {
        put();
        cellsByWrites();
        spoil();
        cellOfTheAddressThen();
        setMask();
        setVectorRank();
        pending();
        pendingByReads();
        raisedOn();
        lineUntilItIsRead();
        firstAgentRaises();
        earlyByAWriteInABox();
        rung();
        withoutRouter();
        anyVectorByRank();
        messageAheadOfLine();
        firstMessageFirst();
        earlyByMessage();
        earlyByLine();
        writesBehindTheRaising();
        earlyByOneOfTwo();
        Check.end();
    }

    private static void put() {
        BusHandler x = new BusHandler();
        x.addMemory(0, 500, 8);
        x.addProcessor(0);
        int[] agents = {-1, 1, 2, Integer.MAX_VALUE};
        for (int agent : agents) {
            Check.thrown("put", Check.OUT, () -> x.put(agent, 0, -1));
            Check.thrown("cellAt", Check.OUT, () -> x.cellAt(agent, 0));
            Check.thrown("cellAnew", Check.OUT, () -> x.cellAnew(agent, 0));
            Check.thrown("spoil", Check.OUT, () -> x.spoil(agent, 0));
        }
        int[] offsets = {-1, 8, Integer.MIN_VALUE};
        for (int offset : offsets) {
            Check.thrown("put", Check.OUT, () -> x.put(0, offset, 10000));
            Check.thrown("cellAt", Check.OUT, () -> x.cellAt(0, offset));
            Check.thrown("cellAnew", Check.OUT, () -> x.cellAnew(0, offset));
            Check.thrown("spoil", Check.OUT, () -> x.spoil(0, offset));
        }
        Check.thrown("value -1", Check.ARGUMENT, () -> x.put(0, 0, -1));
        Check.thrown("value 10000", Check.ARGUMENT, () -> x.put(0, 0, 10000));
        Check.due("never put", x.cellAnew(0, 7), 0);
        Check.due("0 before", x.put(0, 7, 9999), 0);
        Check.due("9999 before", x.put(0, 7, 3), 9999);
        Check.due("kept", x.cellAt(0, 7), 3);
        Check.due("from the log", x.cellAnew(0, 7), 3);
        Check.due("another cell", x.cellAt(0, 0) + x.cellAnew(0, 0), 0);
        Check.due("no message went", x.sentOn(0), 0);
    }

    private static void cellsByWrites() {
        BusHandler x = new BusHandler();
        x.addMemory(0, 500, 128);
        x.addProcessor(0);
        x.put(0, 2, 1);
        x.addWrite(1, 502, 44);
        x.addWrite(1, 627, 45);
        x.run(1);
        Check.due("not yet", x.cellAt(0, 2), 1);
        x.run(2);
        Check.due("written", x.cellAt(0, 2), 44);
        Check.due("in the log", x.cellAnew(0, 2), 44);
        Check.due("the last cell", x.cellAt(0, 127), 45);
        Check.due("in the log, too", x.cellAnew(0, 127), 45);
        for (int n = 0; n < 200; n++) {
            x.put(0, n % 128, n);
        }
        for (int offset = 0; offset < 128; offset++) {
            int last = offset < 72 ? 128 + offset : offset;
            Check.due("kept", x.cellAt(0, offset), last);
            Check.due("a long log", x.cellAnew(0, offset), last);
        }
    }

    private static void spoil() {
        BusHandler x = new BusHandler();
        x.addMemory(0, 0, 8);
        x.addProcessor(0);
        x.put(0, 1, 5);
        Check.due("not before", x.spoil(0, 1), false);
        Check.due("before", x.spoil(0, 1), true);
        Check.due("another cell", x.spoil(0, 2), false);
        Check.due("its value stays", x.cellAt(0, 1), 5);
        Check.due("also in the log", x.cellAnew(0, 1), 5);
        x.addRead(1, 1);
        x.run(3);
        Check.due("a read gives the error", x.errorAt(1, 0), 'p');
        Check.due("it stays spoilt", x.spoil(0, 1), true);
        Check.thrown("a put that fails leaves it", Check.ARGUMENT, () -> x.put(0, 1, -1));
        Check.due("still spoilt", x.spoil(0, 1), true);
        x.put(0, 1, 5);
        Check.due("not when it was put", x.spoil(0, 1), false);
        x.addWrite(1, 1, 6);
        x.addRead(1, 1);
        x.run(5);
        Check.due("not when it was written", x.valueAt(1, 1), 6);
        Check.due("not spoilt", x.spoil(0, 1), false);
    }

    /** The memory of the rank 0 can't answer while the others keep the bus. */
    private static void cellOfTheAddressThen() {
        BusHandler x = new BusHandler();
        x.addMemory(0, 0, 8);
        x.setArbiter(0, true);
        for (int k = 1; k < 6; k++) {
            x.addProcessor(0);
            x.setRank(k, 9);
            x.addRead(k, 0);
        }
        x.addProcessor(0);
        x.setRank(6, 8);
        x.addWrite(6, 3, 77);
        x.addWrite(6, 900, 0);
        x.addWrite(6, 900, 0);
        x.run(7);
        Check.due("a read stays in the box, the write behind it", x.inbox(0), 2);
        Check.due("four answers wait", Check.lineOf(x, 0), "0 memory bus0 a a a a");
        x.moveWindow(0, 4);
        x.run(5);
        Check.due("the cell is that of the address then", x.cellAt(0, 3), 77);
        x.run(5);
        Check.due("the read is answered from the same cell", x.readsOf(5), 1);
    }

    /** A router at 160, a processor that waits, and one that writes. */
    private static BusHandler routerBoard() {
        BusHandler x = new BusHandler();
        x.addRouter(0, 160);
        x.addProcessor(0);
        x.addProcessor(0);
        return x;
    }

    private static void setMask() {
        BusHandler x = routerBoard();
        Check.thrown("vector -1", Check.ARGUMENT, () -> x.setMask(-1, true));
        Check.thrown("vector 8", Check.ARGUMENT, () -> x.setMask(8, true));
        Check.due("not at first", x.setMask(7, true), false);
        Check.due("masked before", x.setMask(7, true), true);
        x.addWrite(2, 167, 0);
        x.addWait(1, 7);
        x.run(10);
        Check.due("pending all the same", x.pending(7), 1);
        Check.due("not taken", x.stepOf(1), 0);
        Check.due("masked before it is not", x.setMask(7, false), true);
        x.run(1);
        Check.due("taken", x.takenAt(1, 0), 7);
        Check.due("not pending any more", x.pending(7), 0);
    }

    private static void setVectorRank() {
        BusHandler x = new BusHandler();
        Check.thrown("vector -1", Check.ARGUMENT, () -> x.setVectorRank(-1, 0));
        Check.thrown("vector 8", Check.ARGUMENT, () -> x.setVectorRank(8, 0));
        Check.thrown("rank -1", Check.ARGUMENT, () -> x.setVectorRank(0, -1));
        Check.thrown("rank 10", Check.ARGUMENT, () -> x.setVectorRank(0, 10));
        Check.due("0 at first", x.setVectorRank(0, 9), 0);
        Check.due("9 before", x.setVectorRank(0, 1), 9);
        Check.due("each vector has its own", x.setVectorRank(7, 1), 0);
        Check.due("1 before", x.setVectorRank(0, 0), 1);
        Check.due("0 before", x.setVectorRank(0, 0), 0);
    }

    private static void pending() {
        BusHandler x = routerBoard();
        Check.thrown("vector -1", Check.ARGUMENT, () -> x.pending(-1));
        Check.thrown("vector 8", Check.ARGUMENT, () -> x.pending(8));
        x.addWrite(2, 160, 0);
        x.addWrite(2, 160, 5);
        x.addWrite(2, 167, 9999);
        x.addWrite(2, 159, 1);
        x.addWrite(2, 168, 1);
        x.run(6);
        Check.due("two messages, whatever the value", x.pending(0), 2);
        Check.due("the last vector", x.pending(7), 1);
        Check.due("the others", x.pending(1) + x.pending(6), 0);
        Check.due("beside the window they are lost", x.lost(), 2);
        x.moveWindow(0, 163);
        x.addWrite(2, 163, 0);
        x.run(2);
        Check.due("the vector of the address by the window", x.pending(0), 3);
    }

    private static void pendingByReads() {
        BusHandler x = routerBoard();
        x.addWrite(2, 163, 0);
        x.addWrite(2, 163, 0);
        x.addRead(2, 163);
        x.addRead(2, 164);
        x.run(4);
        Check.due("the answer is in the list of the router", Check.lineOf(x, 0), "0 router bus0 a");
        x.run(6);
        Check.due("two are pending", x.valueAt(2, 0), 2);
        Check.due("none is pending", x.valueAt(2, 1), 0);
        Check.due("a read takes none", x.pending(3), 2);
    }

    /** A memory, a processor, two devices at 100 and 104, a router at 160; each device has a ring of its own. */
    private static BusHandler lineBoard(boolean hasRouter) {
        BusHandler x = new BusHandler();
        x.addMemory(0, 0, 64);
        x.addProcessor(0);
        x.addDevice(0, 100);
        x.addDevice(0, 104);
        if (hasRouter) {
            x.addRouter(0, 160);
        }
        x.put(0, 8, 1);
        x.put(0, 10, 1);
        x.put(0, 20, 1);
        x.put(0, 22, 1);
        return x;
    }

    private static void start(BusHandler x, int processor, int device, int ringBase) {
        int base = device == 2 ? 100 : 104;
        x.addWrite(processor, base + 1, ringBase);
        x.addWrite(processor, base + 2, 1);
        x.addWrite(processor, base, 1);
    }

    private static void raisedOn() {
        BusHandler x = lineBoard(true);
        Check.thrown("line -1", Check.ARGUMENT, () -> x.raisedOn(-1));
        Check.thrown("line 4", Check.ARGUMENT, () -> x.raisedOn(4));
        x.setLine(2, 3);
        x.setLine(3, 3);
        Check.due("not by being told", x.raisedOn(3), 0);
        start(x, 1, 2, 8);
        x.run(30);
        Check.due("one device", x.raisedOn(3), 1);
        start(x, 1, 3, 20);
        x.run(30);
        Check.due("two devices", x.raisedOn(3), 2);
        Check.due("no other line", x.raisedOn(0) + x.raisedOn(1) + x.raisedOn(2), 0);
        x.setLine(2, 1);
        Check.due("still raised", x.raisedOn(3), 2);
        x.put(0, 8, 1);
        x.addWrite(1, 100, 1);
        x.run(30);
        Check.due("another line instead", x.raisedOn(1), 1);
        Check.due("the other device stays", x.raisedOn(3), 1);
        x.pull(3);
        Check.due("a pulled one raises none", x.raisedOn(3), 0);
    }

    private static void lineUntilItIsRead() {
        BusHandler x = lineBoard(true);
        x.setLine(2, 3);
        start(x, 1, 2, 8);
        x.addRead(1, 101);
        x.addRead(1, 103);
        x.run(30);
        Check.due("other registers do not matter", x.raisedOn(3), 1);
        x.register(2, 0);
        Check.due("nor does a look at it", x.raisedOn(3), 1);
        x.addRead(1, 100);
        x.run(1);
        Check.due("until it is read", x.raisedOn(3), 1);
        x.run(1);
        Check.due("as the read goes", x.raisedOn(3), 0);
        x.run(1);
        x.put(0, 8, 1);
        x.addRead(1, 100);
        x.run(3);
        Check.due("the read was from the cache", x.readsOf(1), 4);
        x.addWrite(1, 100, 1);
        x.run(20);
        Check.due("raised again", x.raisedOn(3), 1);
        Check.due("the bell rang again", x.rung(), 2);
        x.addWrite(1, 103, 0);
        x.run(2);
        Check.due("asleep", x.raisedOn(3), 0);
        Check.due("no other line either", x.raisedOn(0) + x.raisedOn(1) + x.raisedOn(2), 0);
    }

    /** The device is the first agent of all, and its line is the last one. */
    private static void firstAgentRaises() {
        BusHandler x = new BusHandler();
        x.addDevice(0, 100);
        x.addMemory(0, 0, 64);
        x.addRouter(0, 160);
        x.addProcessor(0);
        x.put(1, 8, 1);
        x.put(1, 10, 1);
        x.setLine(0, 3);
        x.addWrite(3, 101, 8);
        x.addWrite(3, 102, 1);
        x.addWrite(3, 100, 1);
        x.addWait(3, 3);
        x.run(11);
        x.setArbiter(0, true);
        x.setRank(1, 9);
        x.addProcessor(0);
        x.setRank(4, 8);
        for (int n = 0; n < 16; n++) {
            x.addWrite(4, 900, 0);
        }
        x.run(4);
        Check.due("taken", x.stepOf(3), 4);
        Check.due("while two writes were in its list", x.listLength(0, false), 2);
        Check.due("early", x.early(), 1);
        Check.due("raised", x.raisedOn(3), 1);
        x.addRead(3, 100);
        x.setRank(3, 9);
        x.run(2);
        Check.due("as the read goes", x.raisedOn(0) + x.raisedOn(3), 0);
        x.pull(0);
        Check.due("pulled", x.raisedOn(0), 0);
    }

    /** The write of agent 6 stays in the box of a memory that can't answer. */
    private static void earlyByAWriteInABox() {
        BusHandler x = new BusHandler();
        x.addMemory(0, 0, 8);
        x.setArbiter(0, true);
        for (int k = 1; k < 6; k++) {
            x.addProcessor(0);
            x.setRank(k, 9);
            x.addRead(k, 0);
        }
        x.addProcessor(0);
        x.setRank(6, 8);
        x.addWrite(6, 3, 77);
        x.addWrite(6, 161, 0);
        x.addRouter(0, 160);
        x.addProcessor(0);
        x.addWait(8, 1);
        x.run(8);
        Check.due("the box has a read and a write", x.inbox(0), 2);
        Check.due("taken", x.takenAt(8, 0), 1);
        Check.due("early", x.early(), 1);
    }

    private static void rung() {
        BusHandler x = lineBoard(true);
        Check.due("not yet", x.rung(), 0);
        x.addWrite(1, 160, 1);
        x.addWrite(1, 160, 1);
        x.addRead(1, 160);
        x.run(6);
        Check.due("once for each message", x.rung(), 2);
        x.setLine(2, 0);
        start(x, 1, 2, 8);
        x.run(30);
        Check.due("once for a line", x.rung(), 3);
        x.put(0, 8, 1);
        x.addWrite(1, 100, 1);
        x.run(30);
        Check.due("not for a line that is raised", x.rung(), 3);
        x.put(0, 8, 1);
        x.setLine(2, 2);
        x.addWrite(1, 100, 1);
        x.run(30);
        Check.due("once for another line", x.rung(), 4);
        x.addWait(1, -1);
        x.run(5);
        Check.due("not when it is taken", x.rung(), 4);
    }

    private static void withoutRouter() {
        BusHandler x = lineBoard(false);
        x.setLine(2, 0);
        start(x, 1, 2, 8);
        x.addWrite(1, 160, 1);
        x.addWait(1, -1);
        x.run(40);
        Check.due("the bell rings", x.rung(), 1);
        Check.due("the line is raised", x.raisedOn(0), 1);
        Check.due("the write is lost", x.lost(), 1);
        Check.due("nothing can be taken", x.stepOf(1), 4);
        x.addRouter(0, 160);
        x.run(1);
        Check.due("with a router it can", x.takenAt(1, 0), 0);
    }

    private static void anyVectorByRank() {
        BusHandler x = routerBoard();
        int[] vectors = {0, 1, 3, 4, 6, 7};
        for (int vector : vectors) {
            x.addWrite(2, 160 + vector, 0);
        }
        x.setVectorRank(4, 2);
        x.setVectorRank(6, 2);
        x.setVectorRank(7, 9);
        x.setVectorRank(5, 9);
        x.setMask(7, true);
        x.run(10);
        for (int n = 0; n < 6; n++) {
            x.addWait(1, -1);
        }
        x.run(10);
        Check.due("the greatest rank, the lowest number", x.takenAt(1, 0), 4);
        Check.due("then the next one of this rank", x.takenAt(1, 1), 6);
        Check.due("then by number", x.takenAt(1, 2), 0);
        Check.due("then by number", x.takenAt(1, 3), 1);
        Check.due("then by number", x.takenAt(1, 4), 3);
        Check.due("the masked one is not taken", x.stepOf(1), 5);
        x.setMask(7, false);
        x.run(1);
        Check.due("now it is", x.takenAt(1, 5), 7);
    }

    private static void messageAheadOfLine() {
        BusHandler x = lineBoard(true);
        x.setLine(2, 2);
        start(x, 1, 2, 8);
        x.addWrite(1, 162, 0);
        x.run(30);
        for (int n = 0; n < 3; n++) {
            x.addWait(1, 2);
        }
        x.run(1);
        Check.due("the message is taken", x.pending(2), 0);
        Check.due("one wait", x.stepOf(1), 5);
        x.run(2);
        Check.due("the line is taken twice", x.takenAt(1, 2), 2);
        Check.due("and stays raised", x.raisedOn(2), 1);
        x.addWait(1, 1);
        x.run(3);
        Check.due("a line is no other vector", x.stepOf(1), 7);
    }

    /** The write of agent 3 to the bus below is held back; its message came behind that of agent 2. */
    private static void firstMessageFirst() {
        BusHandler x = new BusHandler();
        x.addRouter(0, 160);
        x.addProcessor(0);
        x.addProcessor(0);
        x.addProcessor(0);
        x.addBridge(0, 500, 100);
        x.addProcessor(1);
        x.setArbiter(1, true);
        x.setRank(5, 9);
        for (int n = 0; n < 16; n++) {
            x.addWrite(5, 520, 0);
        }
        x.addWrite(2, 161, 0);
        x.addWrite(3, 510, 0);
        x.addWrite(3, 161, 0);
        x.run(5);
        Check.due("two messages", x.pending(1), 2);
        Check.due("the write is held back", Check.lineOf(x, 4), "4 bridge bus0 w510");
        x.addWait(1, 1);
        x.addWait(1, 1);
        x.run(1);
        Check.due("the first one is not early", x.early(), 0);
        x.run(1);
        Check.due("the second one is", x.early(), 1);
        Check.due("both are taken", x.stepOf(1), 2);
    }

    /** A device below a bridge whose writes to the memory above are held back from the cycle 24 on. */
    private static BusHandler heldBack() {
        BusHandler x = new BusHandler();
        x.addMemory(0, 0, 64);
        x.addProcessor(0);
        x.addBridge(0, 200, 100);
        x.addDevice(1, 200);
        x.addRouter(1, 240);
        x.put(0, 8, 1);
        x.put(0, 10, 1);
        x.addWrite(1, 201, 8);
        x.addWrite(1, 202, 1);
        x.addWrite(1, 200, 1);
        x.addWait(1, -1);
        return x;
    }

    private static void holdBack(BusHandler x) {
        x.run(22);
        x.setArbiter(0, true);
        x.addProcessor(0);
        x.setRank(5, 9);
        for (int n = 0; n < 16; n++) {
            x.addWrite(5, 900, 0);
        }
        x.run(2);
    }

    private static void earlyByMessage() {
        BusHandler x = heldBack();
        x.setMessage(3, 243);
        holdBack(x);
        Check.due("the owner is not written yet", Check.lineOf(x, 2), "2 bridge bus0 w8");
        Check.due("but the message is taken", x.takenAt(1, 0), 3);
        Check.due("early", x.early(), 1);
        x.run(40);
        Check.due("once", x.early(), 1);
        BusHandler y = heldBack();
        y.setMessage(3, 243);
        y.run(40);
        Check.due("taken", y.takenAt(1, 0), 3);
        Check.due("in time", y.early(), 0);
    }

    private static void earlyByLine() {
        BusHandler x = heldBack();
        x.setLine(3, 1);
        holdBack(x);
        Check.due("taken", x.takenAt(1, 0), 1);
        Check.due("early", x.early(), 1);
        BusHandler y = heldBack();
        y.setLine(3, 1);
        y.run(40);
        Check.due("taken", y.takenAt(1, 0), 1);
        Check.due("in time", y.early(), 0);
    }

    /** Two descriptors, the second one's writes are held back; only when it raises the line anew, it is early. */
    private static void writesBehindTheRaising() {
        for (int flags = 0; flags <= 2; flags += 2) {
            BusHandler x = lineBoard(true);
            x.put(0, 12, 1);
            x.put(0, 14, 1);
            x.put(0, 15, flags);
            x.setLine(2, 0);
            x.addWrite(1, 101, 8);
            x.addWrite(1, 102, 2);
            x.addWrite(1, 100, 2);
            x.addWait(1, 0);
            x.setMask(0, true);
            x.run(22);
            Check.due("the first one has ended", x.blocksOf(2), 1);
            Check.due("the second one not", x.stateOf(2), 'f');
            x.setArbiter(0, true);
            x.setRank(0, 9);
            x.addProcessor(0);
            x.setRank(5, 8);
            for (int n = 0; n < 16; n++) {
                x.addWrite(5, 900, 0);
            }
            x.run(3);
            Check.due("the second one has ended", x.blocksOf(2), 2);
            Check.due("two writes are held back", Check.lineOf(x, 2), "2 device bus0 w14 w12");
            x.setMask(0, false);
            x.run(1);
            Check.due("taken", x.takenAt(1, 0), 0);
            Check.due("early if it was raised behind them", x.early(), flags == 0 ? 1 : 0);
            Check.due("raised once", x.rung(), 1);
        }
    }

    private static void earlyByOneOfTwo() {
        BusHandler x = lineBoard(true);
        x.setLine(2, 0);
        x.setLine(3, 0);
        start(x, 1, 3, 20);
        x.run(30);
        Check.due("the second device raises", x.raisedOn(0), 1);
        start(x, 1, 2, 8);
        x.run(11);
        x.setArbiter(0, true);
        x.setRank(0, 9);
        x.addProcessor(0);
        x.setRank(5, 8);
        for (int n = 0; n < 16; n++) {
            x.addWrite(5, 900, 0);
        }
        x.run(3);
        Check.due("both raise", x.raisedOn(0), 2);
        Check.due("writes are held back", x.listLength(2, false), 2);
        x.addWait(1, -1);
        x.run(1);
        Check.due("taken", x.takenAt(1, 0), 0);
        Check.due("early", x.early(), 1);
    }
}
