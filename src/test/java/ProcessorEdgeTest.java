/** "Processors", "Memories", "Answers that are late" and the promises 14 to 22 and 35 to 38. */
public final class ProcessorEdgeTest {
    public static void main(String[] args) {
        sixteenWrites();
        sixteenReads();
        sixteenWaits();
        sixteenStepsOfAllKinds();
        emptyProgram();
        oneStepAnAct();
        addressesAndValues();
        vectorsOfAWait();
        cacheOfFour();
        newestInTheCache();
        cachedReadsLeaveTheOrder();
        errorsAreNotCached();
        cachedValueStays();
        writeOutOfAnEmptyCache();
        waitingForAnAnswer();
        sixtyFourthTime();
        inTheLastMoment();
        takesWhatCameInThisCycle();
        oneMessageAnAct();
        cellsFromZeroToTheLast();
        valuesOfCells();
        spoiltUntilPut();
        spoiltUntilWritten();
        logsOfAllLengths();
        Check.end();
    }

    /** A memory 0 at the addresses 0 to 15 and a processor 1. */
    private static BusHandler board() {
        BusHandler x = new BusHandler();
        x.addMemory(0, 0, 16);
        x.addProcessor(0);
        for (int offset = 0; offset < 16; offset++) {
            x.put(0, offset, 50 + offset);
        }
        return x;
    }

    // ---- programs

    /** "A program has at most 16 steps." */
    private static void sixteenWrites() {
        BusHandler x = board();
        for (int n = 0; n < 16; n++) {
            Check.due("steps", x.addWrite(1, n, n), n + 1);
        }
        Check.thrown("a 17th write", Check.STATE, () -> x.addWrite(1, 0, 99));
        Check.thrown("a read as 17th", Check.STATE, () -> x.addRead(1, 0));
        Check.thrown("a wait as 17th", Check.STATE, () -> x.addWait(1, -1));
        x.run(17);
        Check.due("the last one", x.cellAt(0, 15), 15);
        Check.due("not the refused one", x.cellAt(0, 0), 0);
        Check.due("16 are done", x.stepOf(1), 16);
        x.run(10);
        Check.due("there is no other step", x.stepOf(1), 16);
        Check.thrown("also now there is no room", Check.STATE, () -> x.addWrite(1, 0, 99));
    }

    private static void sixteenReads() {
        BusHandler x = board();
        for (int n = 0; n < 16; n++) {
            Check.due("steps", x.addRead(1, n), n + 1);
        }
        Check.thrown("a 17th read", Check.STATE, () -> x.addRead(1, 0));
        for (int n = 0; n < 16; n++) {
            int index = n;
            Check.due("reads", x.readsOf(1), n);
            Check.thrown("not given yet", Check.MISSING, () -> x.valueAt(1, index));
            Check.thrown("nor an error", Check.MISSING, () -> x.errorAt(1, index));
            while (x.readsOf(1) == n && x.cycles() < 100) {
                x.run(1);
            }
            Check.due("the value", x.valueAt(1, n), 50 + n);
            Check.due("no error", x.errorAt(1, n), '-');
        }
        Check.thrown("no 17th", Check.MISSING, () -> x.valueAt(1, 16));
        Check.thrown("no 17th error", Check.MISSING, () -> x.errorAt(1, 16));
        Check.due("the first one is still told", x.valueAt(1, 0), 50);
    }

    private static void sixteenWaits() {
        BusHandler x = board();
        x.addRouter(0, 160);
        x.addProcessor(0);
        for (int n = 0; n < 16; n++) {
            Check.due("steps", x.addWait(1, n == 15 ? -1 : n % 8), n + 1);
            x.addWrite(3, 160 + n % 8, 0);
        }
        Check.thrown("a 17th wait", Check.STATE, () -> x.addWait(1, 0));
        x.run(40);
        for (int n = 0; n < 16; n++) {
            Check.due("taken", x.takenAt(1, n), n % 8);
        }
        Check.thrown("no 17th", Check.MISSING, () -> x.takenAt(1, 16));
        Check.due("16 are done", x.stepOf(1), 16);
        Check.due("waits are no reads", x.readsOf(1), 0);
    }

    private static void sixteenStepsOfAllKinds() {
        BusHandler x = board();
        x.addRouter(0, 160);
        for (int n = 0; n < 5; n++) {
            x.addWrite(1, 160 + n, 0);
            x.addRead(1, n);
            x.addWait(1, n);
        }
        Check.due("the 16th step", x.addRead(1, 15), 16);
        Check.thrown("a 17th one", Check.STATE, () -> x.addWait(1, 0));
        x.run(60);
        Check.due("steps", x.stepOf(1), 16);
        Check.due("reads", x.readsOf(1), 6);
        Check.due("the index counts reads alone", x.valueAt(1, 5), 65);
        Check.due("the index counts waits alone", x.takenAt(1, 4), 4);
        Check.thrown("there were 6 reads", Check.MISSING, () -> x.valueAt(1, 6));
        Check.thrown("there were 5 waits", Check.MISSING, () -> x.takenAt(1, 5));
    }

    /** "It does its next step, if there is one." */
    private static void emptyProgram() {
        BusHandler x = board();
        Check.due("nothing goes", x.run(20), 0);
        Check.due("no step is done", x.stepOf(1), 0);
        Check.due("the first step", x.addWrite(1, 0, 9), 1);
        x.run(2);
        Check.due("it is done as soon as it is there", x.cellAt(0, 0), 9);
        Check.due("nothing more goes", x.run(20), 0);
        Check.due("the second step", x.addWrite(1, 1, 9), 2);
        x.run(1);
        Check.due("the end of a program is no end for good", x.stepOf(1), 2);
    }

    private static void oneStepAnAct() {
        BusHandler x = board();
        for (int n = 0; n < 3; n++) {
            x.addWrite(1, 900, n);
        }
        for (int n = 1; n <= 3; n++) {
            x.run(1);
            Check.due("steps", x.stepOf(1), n);
        }
        x.addRead(1, 3);
        x.addRead(1, 3);
        x.addRead(1, 3);
        x.run(3);
        Check.due("the answer, and one from the cache in the same cycle", x.readsOf(1), 2);
        x.run(1);
        Check.due("the next one in the next cycle", x.readsOf(1), 3);
    }

    /** "The address, 0 to 1023", "the value, 0 to 9999". */
    private static void addressesAndValues() {
        BusHandler x = new BusHandler();
        x.addMemory(0, 0, 1);
        x.addMemory(0, 1023, 1);
        x.addProcessor(0);
        int[][] wrong = {{-1, 0}, {1024, 0}, {0, -1}, {0, 10000}};
        for (int[] pair : wrong) {
            Check.thrown("addWrite", Check.ARGUMENT, () -> x.addWrite(2, pair[0], pair[1]));
        }
        Check.thrown("addRead(-1)", Check.ARGUMENT, () -> x.addRead(2, -1));
        Check.thrown("addRead(1024)", Check.ARGUMENT, () -> x.addRead(2, 1024));
        Check.due("the first step", x.addWrite(2, 0, 9999), 1);
        x.addWrite(2, 1023, 0);
        x.addRead(2, 0);
        x.addRead(2, 1023);
        x.put(1, 0, 5);
        Check.due("not cached", x.isCached(2, 0) || x.isCached(2, 1023), false);
        x.run(12);
        Check.due("9999 at the address 0", x.valueAt(2, 0), 9999);
        Check.due("0 at the address 1023", x.valueAt(2, 1), 0);
        Check.due("both are cached", x.isCached(2, 0) && x.isCached(2, 1023), true);
        Check.thrown("isCached(-1)", Check.ARGUMENT, () -> x.isCached(2, -1));
        Check.thrown("isCached(1024)", Check.ARGUMENT, () -> x.isCached(2, 1024));
    }

    /** "The vector, 0 to 7, or -1 for any one." */
    private static void vectorsOfAWait() {
        for (int vector = -1; vector < 8; vector++) {
            for (int sent = 0; sent < 8; sent++) {
                BusHandler x = new BusHandler();
                x.addRouter(0, 160);
                x.addProcessor(0);
                x.addProcessor(0);
                Check.due("a step", x.addWait(1, vector), 1);
                x.addWrite(2, 160 + sent, 0);
                x.run(3);
                boolean isTaken = vector == -1 || vector == sent;
                Check.due("vector " + vector + " and " + sent, x.stepOf(1), isTaken ? 1 : 0);
                Check.due("pending", x.pending(sent), isTaken ? 0 : 1);
                if (isTaken) {
                    Check.due("the vector that was taken", x.takenAt(1, 0), sent);
                }
            }
        }
        BusHandler y = board();
        Check.thrown("vector -2", Check.ARGUMENT, () -> y.addWait(1, -2));
        Check.thrown("vector 8", Check.ARGUMENT, () -> y.addWait(1, 8));
        Check.due("no step was added", y.addWait(1, 7), 1);
    }

    // ---- caches

    private static void read(BusHandler x, int... addresses) {
        for (int address : addresses) {
            x.addRead(1, address);
        }
        x.run(4 * addresses.length);
    }

    private static void cacheIs(String what, BusHandler x, int... addresses) {
        for (int address = 0; address < 16; address++) {
            boolean isDue = false;
            for (int due : addresses) {
                isDue |= due == address;
            }
            Check.due(what + ": " + address, x.isCached(1, address), isDue);
        }
    }

    /** "The cache has at most 4 addresses"; "if there were 5, the oldest one leaves it". */
    private static void cacheOfFour() {
        BusHandler x = board();
        cacheIs("empty", x);
        read(x, 0);
        cacheIs("one", x, 0);
        read(x, 1, 2);
        cacheIs("three", x, 0, 1, 2);
        read(x, 3);
        cacheIs("four", x, 0, 1, 2, 3);
        read(x, 4);
        cacheIs("the oldest one left", x, 1, 2, 3, 4);
        read(x, 5);
        cacheIs("then the next one", x, 2, 3, 4, 5);
        long sent = x.sentOn(0);
        read(x, 2, 3, 4, 5);
        Check.due("all four by the cache", x.sentOn(0), sent);
        for (int n = 0; n < 4; n++) {
            Check.due("each one with its value", x.valueAt(1, 6 + n), 52 + n);
        }
        read(x, 1);
        Check.due("the one that left by the bus", x.sentOn(0), sent + 2);
    }

    /** "Comes into it as the newest one": also one that was written, and read again. */
    private static void newestInTheCache() {
        BusHandler x = board();
        read(x, 0, 1, 2, 3);
        x.addWrite(1, 0, 9);
        x.run(2);
        cacheIs("out", x, 1, 2, 3);
        read(x, 0);
        cacheIs("in again", x, 0, 1, 2, 3);
        Check.due("with the new value", x.valueAt(1, 4), 9);
        read(x, 4);
        cacheIs("now 1 is the oldest one", x, 0, 2, 3, 4);
        x.addWrite(1, 3, 9);
        x.run(2);
        cacheIs("one out of the midst", x, 0, 2, 4);
        read(x, 5);
        cacheIs("there was room", x, 0, 2, 4, 5);
        read(x, 6);
        cacheIs("2 was the oldest one", x, 0, 4, 5, 6);
    }

    /** "One from the cache leaves the order of the cache as it is." */
    private static void cachedReadsLeaveTheOrder() {
        BusHandler x = board();
        read(x, 0, 1, 2, 3);
        read(x, 0, 0, 1);
        cacheIs("the same four", x, 0, 1, 2, 3);
        read(x, 4);
        cacheIs("0 was the oldest one all the same", x, 1, 2, 3, 4);
    }

    /** "An answer without an error comes into it." */
    private static void errorsAreNotCached() {
        BusHandler x = board();
        read(x, 0, 1, 2, 3);
        x.spoil(0, 4);
        read(x, 4, 900);
        Check.due("poison", x.errorAt(1, 4), 'p');
        Check.due("nobody", x.errorAt(1, 5), 'n');
        cacheIs("none has left", x, 0, 1, 2, 3);
        Check.due("not cached", x.isCached(1, 900), false);
        x.put(0, 4, 44);
        read(x, 4);
        Check.due("so it is read anew", x.valueAt(1, 6), 44);
    }

    /** "A read whose address is in its cache gives its value at once": the one that was read, not the cell's. */
    private static void cachedValueStays() {
        BusHandler x = board();
        read(x, 5);
        x.put(0, 5, 1);
        x.addRead(1, 5);
        Check.due("no message goes", x.run(1), 0);
        Check.due("the value as it was read", x.valueAt(1, 1), 55);
        x.spoil(0, 5);
        x.addRead(1, 5);
        x.run(1);
        Check.due("also when the cell is spoilt", x.errorAt(1, 2), '-');
    }

    private static void writeOutOfAnEmptyCache() {
        BusHandler x = board();
        x.addWrite(1, 5, 1);
        x.run(3);
        cacheIs("still empty", x);
        read(x, 5);
        x.addWrite(1, 6, 1);
        x.run(3);
        cacheIs("a write to another address", x, 5);
        x.addWrite(1, 5, 2);
        x.run(1);
        cacheIs("the only one", x);
    }

    /** "The processor waits for the answer": it does nothing else. */
    private static void waitingForAnAnswer() {
        BusHandler x = board();
        x.addRead(1, 5);
        x.addWrite(1, 6, 1);
        x.run(2);
        Check.due("the write waits", x.stepOf(1), 0);
        x.run(1);
        Check.due("with the answer it comes", x.stepOf(1), 2);
    }

    // ---- late answers

    /** The read goes in the cycle 2, and its answer is held back from then on by five processors with 80 writes. */
    private static BusHandler heldBack() {
        BusHandler x = board();
        x.setArbiter(0, true);
        for (int k = 2; k < 7; k++) {
            x.addProcessor(0);
            x.setRank(k, 9);
        }
        x.addRead(1, 5);
        x.addWrite(1, 6, 1);
        x.run(1);
        for (int n = 0; n < 80; n++) {
            x.addWrite(2 + n % 5, 900, n);
        }
        x.run(1);
        Check.due("the answer is in the list of the memory", Check.lineOf(x, 0), "0 memory bus0 a");
        return x;
    }

    /** "With the 64th one, in which it does nothing else, its read gives the error 't'." */
    private static void sixtyFourthTime() {
        BusHandler x = heldBack();
        x.run(62);
        Check.due("63 times", x.readsOf(1), 0);
        x.run(1);
        Check.due("64 times", x.readsOf(1), 1);
        Check.due("too late", x.errorAt(1, 0), 't');
        Check.due("no value", x.valueAt(1, 0), -1);
        Check.due("it does nothing else", x.stepOf(1), 1);
        x.run(1);
        Check.due("it does not wait any more", x.stepOf(1), 2);
        x.setRank(0, 9);
        x.run(1);
        Check.due("the answer that comes later is dropped", x.readsOf(1), 1);
        Check.due("it has gone", x.listLength(0, false), 0);
        Check.due("and is not cached", x.isCached(1, 5), false);
    }

    /** The answer goes in the cycle in which the processor would count the 64th time, or in the one behind it. */
    private static void inTheLastMoment() {
        BusHandler x = heldBack();
        x.run(62);
        x.setRank(0, 9);
        x.run(1);
        Check.due("just in time", x.errorAt(1, 0), '-');
        Check.due("the value", x.valueAt(1, 0), 55);
        Check.due("and the next step in the same cycle", x.stepOf(1), 2);
        BusHandler y = heldBack();
        y.run(63);
        y.setRank(0, 9);
        y.run(1);
        Check.due("too late", y.errorAt(1, 0), 't');
        Check.due("one answer", y.readsOf(1), 1);
    }

    // ---- memories

    /** "When a memory acts, it takes the first message out of its box, also one that came in this cycle." */
    private static void takesWhatCameInThisCycle() {
        BusHandler x = board();
        x.addWrite(1, 5, 1);
        x.addRead(1, 5);
        x.run(1);
        Check.due("in the list", x.cellAt(0, 5), 55);
        x.run(1);
        Check.due("came and was taken", x.cellAt(0, 5), 1);
        Check.due("so that the box is empty", x.inbox(0), 0);
        x.run(1);
        Check.due("the read, too", x.inbox(0), 0);
        Check.due("its answer is in the list", Check.lineOf(x, 0), "0 memory bus0 a");
    }

    /** The box holds a read and 3 writes; when the read can be answered, it takes one of them in each cycle. */
    private static void oneMessageAnAct() {
        BusHandler x = new BusHandler();
        x.addMemory(0, 0, 16);
        x.setArbiter(0, true);
        for (int k = 1; k < 8; k++) {
            x.addProcessor(0);
            x.setRank(k, k == 7 ? 1 : 9);
        }
        for (int k = 1; k < 6; k++) {
            x.addRead(k, 0);
        }
        for (int n = 0; n < 16; n++) {
            x.addWrite(7, 900, n);
        }
        x.run(6);
        for (int n = 0; n < 3; n++) {
            x.addWrite(6, 0, 71 + n);
        }
        x.run(4);
        Check.due("4 messages", x.inbox(0), 4);
        x.setRank(0, 9);
        x.run(1);
        Check.due("the read", x.inbox(0), 3);
        for (int n = 0; n < 3; n++) {
            x.run(1);
            Check.due("one write", x.inbox(0), 2 - n);
            Check.due("in their order", x.cellAt(0, 0), 71 + n);
        }
    }

    /** "The offset, from 0." */
    private static void cellsFromZeroToTheLast() {
        for (int size : new int[] {1, 2, 128}) {
            BusHandler x = new BusHandler();
            BusHandler y = new BusHandler();
            x.addMemory(0, 0, size);
            y.addMemory(0, 0, size);
            for (int offset = 0; offset < size; offset++) {
                Check.due("0 at first", x.cellAt(0, offset) + x.cellAnew(0, offset), 0);
                Check.due("not spoilt at first", y.spoil(0, offset), false);
                Check.due("put", y.put(0, offset, 1), 0);
            }
            for (int offset : new int[] {-1, size, 128, Integer.MIN_VALUE, Integer.MAX_VALUE}) {
                Check.thrown("cellAt", Check.OUT, () -> x.cellAt(0, offset));
                Check.thrown("cellAnew", Check.OUT, () -> x.cellAnew(0, offset));
                Check.thrown("spoil", Check.OUT, () -> x.spoil(0, offset));
                Check.thrown("put", Check.OUT, () -> x.put(0, offset, 1));
            }
        }
    }

    /** "The value, 0 to 9999." */
    private static void valuesOfCells() {
        BusHandler x = board();
        Check.thrown("-1", Check.ARGUMENT, () -> x.put(0, 3, -1));
        Check.thrown("10000", Check.ARGUMENT, () -> x.put(0, 3, 10000));
        Check.due("neither was put", x.put(0, 3, 0), 53);
        Check.due("0", x.put(0, 3, 9999), 0);
        Check.due("9999", x.cellAt(0, 3), 9999);
        Check.due("9999 from the log", x.cellAnew(0, 3), 9999);
    }

    /** "Spoils the parity of a cell, until it is put or written again." */
    private static void spoiltUntilPut() {
        BusHandler x = board();
        Check.due("not before", x.spoil(0, 15), false);
        Check.due("its value is as it is kept", x.cellAt(0, 15), 65);
        Check.due("also from the log", x.cellAnew(0, 15), 65);
        read(x, 15, 14);
        Check.due("poison", x.errorAt(1, 0), 'p');
        Check.due("the cell beside it is not spoilt", x.valueAt(1, 1), 64);
        Check.due("a read does not mend it", x.spoil(0, 15), true);
        Check.thrown("nor does a put that is refused", Check.ARGUMENT, () -> x.put(0, 15, 10000));
        Check.due("still spoilt", x.spoil(0, 15), true);
        Check.due("the value before", x.put(0, 15, 65), 65);
        read(x, 15);
        Check.due("no more poison", x.valueAt(1, 2), 65);
        Check.due("not spoilt", x.spoil(0, 15), false);
    }

    private static void spoiltUntilWritten() {
        BusHandler x = board();
        x.spoil(0, 0);
        x.addWrite(1, 1, 7);
        x.run(2);
        Check.due("a write beside it does not mend it", x.spoil(0, 0), true);
        x.addWrite(1, 0, 7);
        x.run(1);
        Check.due("not before it is written", x.spoil(0, 0), true);
        x.run(1);
        Check.due("written", x.spoil(0, 0), false);
        Check.due("the value", x.cellAt(0, 0), 7);
    }

    /** "From the log of all that was put and written." */
    private static void logsOfAllLengths() {
        for (int puts : new int[] {1, 15, 16, 17, 31, 32, 33, 63, 64, 65, 127, 128, 129, 400}) {
            BusHandler x = new BusHandler();
            x.addMemory(0, 0, 5);
            x.addProcessor(0);
            x.addWrite(1, 4, 9999);
            x.run(2);
            for (int n = 0; n < puts; n++) {
                x.put(0, n % 4, n);
            }
            for (int offset = 0; offset < 4; offset++) {
                int last = puts - 1 - Math.floorMod(puts - 1 - offset, 4);
                Check.due("the last put", x.cellAnew(0, offset), Math.max(0, last));
                Check.due("is kept", x.cellAt(0, offset), Math.max(0, last));
            }
            Check.due("the write", x.cellAnew(0, 4), 9999);
            Check.due("both tell the same", x.isConsistent(), true);
        }
    }
}
