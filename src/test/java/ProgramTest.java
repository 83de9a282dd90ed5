/** Promises 14 to 22: programs of processors, what their reads give, and their caches. */
public final class ProgramTest {
    public static void main(String[] args) {
        addWrite();
        addRead();
        addWait();
        sixteenSteps();
        stepOf();
        aFullListHoldsTheProgram();
        readsOfAndValues();
        errors();
        lateAnswer();
        lateAnswerThatComesLater();
        takenAt();
        isCached();
        oldestLeavesTheCache();
        writesTakeOutOfCaches();
        Check.end();
    }

    private static void addWrite() {
        BusHandler x = new BusHandler();
        x.addMemory(0, 0, 8);
        x.addProcessor(0);
        Check.thrown("addWrite(-1, ..)", Check.OUT, () -> x.addWrite(-1, 0, 0));
        Check.thrown("addWrite(2, ..)", Check.OUT, () -> x.addWrite(2, 0, 0));
        Check.thrown("addWrite to a memory", Check.OUT, () -> x.addWrite(0, -1, 0));
        Check.thrown("address -1", Check.ARGUMENT, () -> x.addWrite(1, -1, 0));
        Check.thrown("address 1024", Check.ARGUMENT, () -> x.addWrite(1, 1024, 0));
        Check.thrown("value -1", Check.ARGUMENT, () -> x.addWrite(1, 0, -1));
        Check.thrown("value 10000", Check.ARGUMENT, () -> x.addWrite(1, 0, 10000));
        Check.due("first step", x.addWrite(1, 7, 9999), 1);
        Check.due("second step", x.addWrite(1, 1023, 0), 2);
        x.run(3);
        Check.due("the value is written", x.cellAt(0, 7), 9999);
        Check.due("the other one is lost", x.lost(), 1);
    }

    private static void addRead() {
        BusHandler x = new BusHandler();
        x.addMemory(0, 0, 8);
        x.addProcessor(0);
        Check.thrown("addRead(2, ..)", Check.OUT, () -> x.addRead(2, 0));
        Check.thrown("addRead of a memory", Check.OUT, () -> x.addRead(0, 1024));
        Check.thrown("address -1", Check.ARGUMENT, () -> x.addRead(1, -1));
        Check.thrown("address 1024", Check.ARGUMENT, () -> x.addRead(1, 1024));
        Check.due("first step", x.addRead(1, 0), 1);
        Check.due("second step", x.addRead(1, 1023), 2);
    }

    private static void addWait() {
        BusHandler x = new BusHandler();
        x.addMemory(0, 0, 8);
        x.addProcessor(0);
        Check.thrown("addWait(2, ..)", Check.OUT, () -> x.addWait(2, 0));
        Check.thrown("addWait of a memory", Check.OUT, () -> x.addWait(0, 9));
        Check.thrown("vector -2", Check.ARGUMENT, () -> x.addWait(1, -2));
        Check.thrown("vector 8", Check.ARGUMENT, () -> x.addWait(1, 8));
        Check.due("any vector", x.addWait(1, -1), 1);
        Check.due("vector 7", x.addWait(1, 7), 2);
        Check.due("vector 0", x.addWait(1, 0), 3);
    }

    private static void sixteenSteps() {
        BusHandler x = new BusHandler();
        x.addProcessor(0);
        for (int n = 1; n <= 16; n++) {
            Check.due("steps", x.addWrite(0, 900, n), n);
        }
        Check.thrown("17th write", Check.STATE, () -> x.addWrite(0, 0, 0));
        Check.thrown("17th write, bad value", Check.ARGUMENT, () -> x.addWrite(0, 0, 10000));
        Check.thrown("17th read", Check.STATE, () -> x.addRead(0, 0));
        Check.thrown("17th read, bad address", Check.ARGUMENT, () -> x.addRead(0, 1024));
        Check.thrown("17th wait", Check.STATE, () -> x.addWait(0, 0));
        Check.thrown("17th wait, bad vector", Check.ARGUMENT, () -> x.addWait(0, 8));
        x.run(30);
        Check.due("all are done", x.stepOf(0), 16);
        Check.thrown("steps that are done count", Check.STATE, () -> x.addRead(0, 0));
    }

    private static void stepOf() {
        BusHandler x = new BusHandler();
        x.addMemory(0, 0, 8);
        x.addProcessor(0);
        Check.thrown("stepOf(2)", Check.OUT, () -> x.stepOf(2));
        Check.thrown("stepOf of a memory", Check.OUT, () -> x.stepOf(0));
        x.addWrite(1, 0, 5);
        x.addRead(1, 0);
        x.addWait(1, 0);
        Check.due("at first", x.stepOf(1), 0);
        x.run(1);
        Check.due("a write is done when it comes into the list", x.stepOf(1), 1);
        x.run(2);
        Check.due("a read is not done before its answer", x.stepOf(1), 1);
        x.run(1);
        Check.due("a read is done with its answer", x.stepOf(1), 2);
        x.run(5);
        Check.due("a wait goes on without a router", x.stepOf(1), 2);
    }

    /** The writer with the greater rank keeps the bus, so that the other one's list fills. */
    private static void aFullListHoldsTheProgram() {
        BusHandler x = new BusHandler();
        x.addMemory(0, 0, 8);
        x.addProcessor(0);
        x.addProcessor(0);
        x.addRead(1, 3);
        x.run(3);
        x.setArbiter(0, true);
        x.setRank(2, 1);
        for (int n = 0; n < 16; n++) {
            x.addWrite(2, 900, n);
        }
        for (int n = 0; n < 4; n++) {
            x.addWrite(1, n == 3 ? 2 : n, n);
        }
        x.addRead(1, 7);
        x.run(8);
        Check.due("4 messages are in the list", x.listLength(1, false), 4);
        Check.due("a read waits", x.stepOf(1), 5);
        Check.due("it does not ask again, for it has an offer", x.asksOf(1), 0);
        x.run(8);
        Check.due("still 4", x.listLength(1, false), 4);
        x.run(2);
        Check.due("the read comes as a write goes", Check.lineOf(x, 1), "1 processor bus0 w1 w2 w2 q7");

        BusHandler y = new BusHandler();
        y.addMemory(0, 0, 8);
        y.addProcessor(0);
        y.addProcessor(0);
        y.addRead(1, 3);
        y.run(3);
        y.setArbiter(0, true);
        y.setRank(2, 1);
        for (int n = 0; n < 16; n++) {
            y.addWrite(2, 900, n);
        }
        for (int n = 0; n < 4; n++) {
            y.addWrite(1, 0, n);
        }
        y.addRead(1, 3);
        y.addWrite(1, 3, 1);
        y.run(9);
        Check.due("a read from the cache needs no place", y.readsOf(1), 2);
        Check.due("a write needs one", y.stepOf(1), 6);
        Check.due("it has not taken the address out yet", y.isCached(1, 3), true);
    }

    private static void readsOfAndValues() {
        BusHandler x = new BusHandler();
        x.addMemory(0, 0, 8);
        x.addProcessor(0);
        x.put(0, 2, 42);
        x.addRead(1, 2);
        x.addRead(1, 2);
        x.addRead(1, 900);
        Check.thrown("readsOf(0)", Check.OUT, () -> x.readsOf(0));
        Check.thrown("valueAt(0, 0)", Check.OUT, () -> x.valueAt(0, 0));
        Check.thrown("valueAt(2, 0)", Check.OUT, () -> x.valueAt(2, 0));
        Check.thrown("no read yet", Check.MISSING, () -> x.valueAt(1, 0));
        x.run(2);
        Check.due("not answered", x.readsOf(1), 0);
        Check.thrown("not answered", Check.MISSING, () -> x.valueAt(1, 0));
        x.run(1);
        Check.due("answered, and the second one from the cache in the same cycle", x.readsOf(1), 2);
        Check.due("the value", x.valueAt(1, 0), 42);
        Check.due("the value from the cache", x.valueAt(1, 1), 42);
        Check.thrown("index -1", Check.MISSING, () -> x.valueAt(1, -1));
        Check.thrown("index 2", Check.MISSING, () -> x.valueAt(1, 2));
        x.run(2);
        Check.due("a read of nobody is answered as it goes", x.readsOf(1), 3);
        Check.due("an error has no value", x.valueAt(1, 2), -1);
    }

    private static void errors() {
        BusHandler x = new BusHandler();
        x.addMemory(0, 0, 8);
        x.addProcessor(0);
        x.addDevice(0, 100);
        Check.thrown("errorAt(0, 0)", Check.OUT, () -> x.errorAt(0, 0));
        Check.thrown("no read yet", Check.MISSING, () -> x.errorAt(1, 0));
        x.spoil(0, 1);
        x.addWrite(1, 103, 0);
        x.addRead(1, 100);
        x.addRead(1, 900);
        x.addRead(1, 1);
        x.addRead(1, 2);
        x.run(20);
        Check.due("asleep", x.errorAt(1, 0), 's');
        Check.due("nobody", x.errorAt(1, 1), 'n');
        Check.due("poison", x.errorAt(1, 2), 'p');
        Check.due("none", x.errorAt(1, 3), '-');
        Check.due("asleep has no value", x.valueAt(1, 0), -1);
        Check.due("poison has no value", x.valueAt(1, 2), -1);
        Check.due("0 is a value", x.valueAt(1, 3), 0);
        Check.due("an error is not cached", x.isCached(1, 1), false);
        Check.due("a value is cached", x.isCached(1, 2), true);
        Check.thrown("index 4", Check.MISSING, () -> x.errorAt(1, 4));
        Check.thrown("index -1", Check.MISSING, () -> x.errorAt(1, -1));
    }

    /** Five processors with 80 writes keep the bus from the cycle 2 to the cycle 81. */
    private static BusHandler busyBoard() {
        BusHandler x = new BusHandler();
        x.addMemory(0, 0, 8);
        x.put(0, 1, 7);
        x.addProcessor(0);
        x.setArbiter(0, true);
        for (int k = 2; k < 7; k++) {
            x.addProcessor(0);
            x.setRank(k, 9);
            for (int n = 0; n < 16; n++) {
                x.addWrite(k, 900, n);
            }
        }
        return x;
    }

    private static void lateAnswer() {
        BusHandler x = busyBoard();
        x.addRead(1, 1);
        x.addWrite(1, 2, 3);
        x.run(64);
        Check.due("63 times are not enough", x.readsOf(1), 0);
        x.run(1);
        Check.due("the 64th time", x.readsOf(1), 1);
        Check.due("too late", x.errorAt(1, 0), 't');
        Check.due("no value", x.valueAt(1, 0), -1);
        Check.due("it does nothing else then", x.stepOf(1), 1);
        x.run(1);
        Check.due("it goes on", x.stepOf(1), 2);
        Check.due("the read is still in the list", Check.lineOf(x, 1), "1 processor bus0 q1 w2");
    }

    private static void lateAnswerThatComesLater() {
        BusHandler x = busyBoard();
        x.addRead(1, 1);
        x.addRead(1, 1);
        x.run(81);
        Check.due("the second read waits", Check.lineOf(x, 1), "1 processor bus0 q1 q1");
        x.run(1);
        Check.due("the first read goes", x.listLength(1, false), 1);
        x.setRank(0, 9);
        x.run(1);
        Check.due("its answer is dropped", x.readsOf(1), 1);
        Check.due("and is not cached", x.isCached(1, 1), false);
        x.run(2);
        Check.due("the second one is answered", x.readsOf(1), 2);
        Check.due("its value", x.valueAt(1, 1), 7);
        Check.due("all have gone", x.sentOn(0), 84);
    }

    private static void takenAt() {
        BusHandler x = new BusHandler();
        x.addRouter(0, 100);
        x.addProcessor(0);
        x.addProcessor(0);
        Check.thrown("takenAt(0, 0)", Check.OUT, () -> x.takenAt(0, 0));
        Check.thrown("takenAt(3, 0)", Check.OUT, () -> x.takenAt(3, 0));
        Check.thrown("nothing taken", Check.MISSING, () -> x.takenAt(1, 0));
        x.addWait(1, 5);
        x.addWait(1, -1);
        x.addWrite(2, 103, 0);
        x.addWrite(2, 105, 0);
        x.run(2);
        Check.due("vector 3 is pending", x.pending(3), 1);
        Check.due("it waits for another one", x.stepOf(1), 0);
        x.run(1);
        Check.due("taken in the cycle in which it came", x.takenAt(1, 0), 5);
        Check.due("one wait a cycle", x.stepOf(1), 1);
        x.run(1);
        Check.due("any vector", x.takenAt(1, 1), 3);
        Check.due("nothing is pending", x.pending(3) + x.pending(5), 0);
        Check.thrown("index 2", Check.MISSING, () -> x.takenAt(1, 2));
        Check.thrown("index -1", Check.MISSING, () -> x.takenAt(1, -1));
    }

    private static void isCached() {
        BusHandler x = new BusHandler();
        x.addMemory(0, 1016, 8);
        x.addProcessor(0);
        Check.thrown("isCached(0, 0)", Check.OUT, () -> x.isCached(0, 0));
        Check.thrown("isCached(2, 2000)", Check.OUT, () -> x.isCached(2, 2000));
        Check.thrown("address -1", Check.ARGUMENT, () -> x.isCached(1, -1));
        Check.thrown("address 1024", Check.ARGUMENT, () -> x.isCached(1, 1024));
        Check.due("not yet", x.isCached(1, 1023), false);
        x.addRead(1, 1023);
        x.addWrite(1, 1023, 4);
        x.addRead(1, 1023);
        x.run(2);
        Check.due("not before the answer", x.isCached(1, 1023), false);
        x.run(1);
        Check.due("the write comes in the cycle of the answer, and takes it out", x.isCached(1, 1023), false);
        Check.due("the write is done", x.stepOf(1), 2);
        x.run(3);
        Check.due("read anew", x.isCached(1, 1023), true);
        Check.due("its value", x.valueAt(1, 1), 4);
    }

    private static void oldestLeavesTheCache() {
        BusHandler x = new BusHandler();
        x.addMemory(0, 0, 8);
        x.addProcessor(0);
        int[] addresses = {0, 1, 2, 3, 0, 4};
        for (int address : addresses) {
            x.addRead(1, address);
        }
        x.run(30);
        Check.due("six reads", x.readsOf(1), 6);
        Check.due("five of them by the bus", x.sentOn(0), 10);
        Check.due("the oldest one left, though it was read again", x.isCached(1, 0), false);
        for (int address = 1; address < 5; address++) {
            Check.due("the others are there", x.isCached(1, address), true);
        }
        x.addRead(1, 0);
        x.run(10);
        Check.due("the next oldest one left", x.isCached(1, 1), false);
        Check.due("the newest one is there", x.isCached(1, 0), true);
        BusHandler y = new BusHandler();
        y.addMemory(0, 0, 8);
        y.addProcessor(0);
        for (int n = 0; n < 10; n++) {
            y.put(0, n % 5, 50 + n % 5);
            y.addRead(1, n < 5 ? n : 9 - n);
        }
        y.run(30);
        for (int n = 5; n < 9; n++) {
            Check.due("each address keeps its value", y.valueAt(1, n), 59 - n);
        }
        Check.due("five reads by the bus, and one anew", y.sentOn(0), 12);
    }

    private static void writesTakeOutOfCaches() {
        BusHandler first = new BusHandler();
        first.addProcessor(0);
        first.addProcessor(0);
        first.addMemory(0, 0, 8);
        first.addRead(0, 1);
        first.run(4);
        first.addWrite(1, 1, 3);
        first.run(1);
        Check.due("not before it goes", first.isCached(0, 1), true);
        first.run(1);
        Check.due("out of the cache of the first agent", first.isCached(0, 1), false);
        BusHandler x = new BusHandler();
        x.addMemory(0, 0, 8);
        x.addBridge(0, 500, 100);
        x.addProcessor(0);
        x.addProcessor(0);
        x.addProcessor(1);
        for (int k = 2; k < 5; k++) {
            x.addRead(k, 1);
            x.addRead(k, 2);
        }
        x.run(40);
        x.addWrite(2, 1, 9);
        x.run(1);
        Check.due("out of its own cache at once", x.isCached(2, 1), false);
        Check.due("not yet out of another one", x.isCached(3, 1), true);
        x.run(1);
        Check.due("out as it goes", x.isCached(3, 1), false);
        Check.due("another address stays", x.isCached(3, 2), true);
        Check.due("on another bus it stays", x.isCached(4, 1), true);
        x.addRead(4, 1);
        x.run(3);
        Check.due("and is read as it was", x.valueAt(4, 2), 0);
        x.addWrite(4, 2, 8);
        x.run(2);
        Check.due("from below it has not come yet", x.isCached(3, 2), true);
        x.run(1);
        Check.due("a write by a bridge takes it out, too", x.isCached(3, 2), false);
        x.put(0, 2, 5);
        x.addRead(2, 2);
        x.run(4);
        x.put(0, 2, 6);
        Check.due("what is put stays in caches", x.isCached(2, 2), true);
    }
}
