/** "Interrupts" and the promises 39 to 43, and 52: until when a line is raised, what can be taken, what is early. */
public final class VectorEdgeTest {
    private static final int MEMORY = 0;
    private static final int PROCESSOR = 1;
    private static final int FIRST = 2;
    private static final int SECOND = 3;
    private static final int ROUTER = 4;
    private static final int WAITER = 5;

    public static void main(String[] args) {
        atMostOneRouter();
        vectorsAndLinesAtFirst();
        raisedUntilItsRegisterIsRead();
        notByOtherReadsAndWrites();
        raisedUntilItRaisesAnother();
        interruptsThatRaiseNothing();
        raisedUntilItSleeps();
        raisedUntilItIsPulled();
        raisedByTwo();
        linesAreTheFirstVectors();
        maskedVectors();
        maskedLines();
        greatestRank();
        lowestOfSeveral();
        anyOfMessagesAndLines();
        messageAheadOfTheLine();
        lineThatIsTakenStaysRaised();
        oneMessageAWait();
        bellOfMessages();
        bellOfLines();
        nothingWithoutARouter();
        earlyOnlyBehindItsOwnWrite();
        notEarlyWhenTheWriteIsDone();
        notEarlyByAWriteBehindIt();
        notEarlyByARead();
        earlyInEachListAndBox();
        earlyByEachMessageInTurn();
        earlyByAPulledDevice();
        earlyByTheLatestRaising();
        earlyByEitherOfTwo();
        earlyByWhatIsTaken();
        earlyWhateverIsWritten();
        inTheOrderInWhichTheyCame();
        readInTheMidstOfADescriptor();
        Check.end();
    }

    /** A memory at 0, a processor, devices at 100 and 104 with rings of one at 8 and 12, a router at 160, a waiter. */
    private static BusHandler board() {
        BusHandler x = new BusHandler();
        x.addMemory(0, 0, 64);
        x.addProcessor(0);
        x.addDevice(0, 100);
        x.addDevice(0, 104);
        x.addRouter(0, 160);
        x.addProcessor(0);
        x.addWrite(PROCESSOR, 101, 8);
        x.addWrite(PROCESSOR, 102, 1);
        x.addWrite(PROCESSOR, 105, 12);
        x.addWrite(PROCESSOR, 106, 1);
        x.run(5);
        return x;
    }

    /** Lets a device end a descriptor without a value: it interrupts as it is told. */
    private static void interrupt(BusHandler x, int device) {
        int ring = device == FIRST ? 8 : 12;
        x.put(MEMORY, ring, 1);
        x.put(MEMORY, ring + 2, 1);
        x.put(MEMORY, ring + 3, 0);
        x.addWrite(PROCESSOR, device == FIRST ? 100 : 104, 1);
        int blocks = x.blocksOf(device);
        for (int n = 0; n < 40 && x.blocksOf(device) == blocks; n++) {
            x.run(1);
        }
        Check.due("the descriptor has ended", x.blocksOf(device), blocks + 1);
    }

    private static void raise(BusHandler x, int device, int line) {
        x.setLine(device, line);
        interrupt(x, device);
        Check.due("the line is raised", x.raisedOn(line) > 0, true);
    }

    private static int raisedOnAll(BusHandler x) {
        return x.raisedOn(0) + x.raisedOn(1) + x.raisedOn(2) + x.raisedOn(3);
    }

    // ---- routers, vectors and lines

    /** "There is at most one router." */
    private static void atMostOneRouter() {
        BusHandler x = new BusHandler();
        x.addBridge(0, 500, 100);
        Check.due("the first one", x.addRouter(1, 0), 1);
        Check.thrown("a second one on its bus", Check.STATE, () -> x.addRouter(1, 8));
        Check.thrown("a second one on another bus", Check.STATE, () -> x.addRouter(0, 0));
        Check.due("it was not added", x.targetOf(0, 0), -1);
        Check.due("nor has it a number", x.addProcessor(0), 2);
    }

    /** "Masks a vector, or not, as at first"; "the rank of a vector, 0 at first"; vectors 0 to 7, lines 0 to 3. */
    private static void vectorsAndLinesAtFirst() {
        BusHandler x = new BusHandler();
        for (int vector = 0; vector < 8; vector++) {
            Check.due("nothing is pending", x.pending(vector), 0);
            Check.due("not masked at first", x.setMask(vector, true), false);
            Check.due("masked", x.setMask(vector, false), true);
            Check.due("not masked", x.setMask(vector, false), false);
            Check.due("the rank at first", x.setVectorRank(vector, 9), 0);
            Check.due("the greatest rank", x.setVectorRank(vector, 0), 9);
        }
        for (int line = 0; line < 4; line++) {
            Check.due("not raised at first", x.raisedOn(line), 0);
        }
        for (int vector : new int[] {-1, 8}) {
            Check.thrown("setMask", Check.ARGUMENT, () -> x.setMask(vector, true));
            Check.thrown("setVectorRank", Check.ARGUMENT, () -> x.setVectorRank(vector, 0));
            Check.thrown("pending", Check.ARGUMENT, () -> x.pending(vector));
        }
        for (int line : new int[] {-1, 4}) {
            Check.thrown("raisedOn", Check.ARGUMENT, () -> x.raisedOn(line));
        }
        for (int rank : new int[] {-1, 10}) {
            Check.thrown("setVectorRank", Check.ARGUMENT, () -> x.setVectorRank(7, rank));
        }
        Check.due("nothing has changed", x.setVectorRank(7, 1), 0);
    }

    // ---- until when a line is raised

    /** "A line is raised by a device until its register 0 is read." */
    private static void raisedUntilItsRegisterIsRead() {
        for (int line = 0; line < 4; line++) {
            BusHandler x = board();
            raise(x, FIRST, line);
            x.addRead(PROCESSOR, 100);
            x.run(1);
            Check.due("not before the read goes", x.raisedOn(line), 1);
            x.run(1);
            Check.due("as it goes", raisedOnAll(x), 0);
            x.run(10);
            Check.due("it is not raised again", raisedOnAll(x), 0);
            raise(x, FIRST, line);
            Check.due("but by the next interrupt", x.raisedOn(line), 1);
        }
    }

    /** Neither other registers, nor writes, nor calls that look at it, nor what it is told. */
    private static void notByOtherReadsAndWrites() {
        BusHandler x = board();
        raise(x, FIRST, 3);
        for (int index = 1; index < 4; index++) {
            x.addRead(PROCESSOR, 100 + index);
            x.run(4);
            Check.due("a read of the register " + index, x.raisedOn(3), 1);
        }
        x.addRead(PROCESSOR, 104);
        x.run(4);
        Check.due("a read of another device", x.raisedOn(3), 1);
        int[] values = {0, 8, 1, 1};
        for (int index = 0; index < 4; index++) {
            x.addWrite(PROCESSOR, 100 + index, values[index]);
            x.run(3);
            Check.due("a write to the register " + index, x.raisedOn(3), 1);
            Check.due("a look at it", x.register(FIRST, index), values[index]);
            Check.due("leaves the line", x.raisedOn(3), 1);
        }
        x.setLine(FIRST, 2);
        Check.due("another line that it is told", x.raisedOn(3), 1);
        x.setMessage(FIRST, 50);
        Check.due("a write that it is told", x.raisedOn(3), 1);
        x.setLine(FIRST, -1);
        Check.due("none that it is told", x.raisedOn(3), 1);
        x.run(100);
        Check.due("nor is it a matter of time", x.raisedOn(3), 1);
    }

    /** "It raises another line." */
    private static void raisedUntilItRaisesAnother() {
        BusHandler x = board();
        for (int line : new int[] {0, 1, 3, 2, 2, 0}) {
            raise(x, FIRST, line);
            Check.due("the line " + line, x.raisedOn(line), 1);
            Check.due("no other one", raisedOnAll(x), 1);
        }
        raise(x, SECOND, 1);
        Check.due("another device has its own", raisedOnAll(x), 2);
    }

    /** An interrupt by a write, or not at all, leaves the line that is raised. */
    private static void interruptsThatRaiseNothing() {
        BusHandler x = board();
        raise(x, FIRST, 0);
        x.setMessage(FIRST, 50);
        interrupt(x, FIRST);
        x.run(3);
        Check.due("by a write", x.cellAt(MEMORY, 50), 1);
        Check.due("the line stays", x.raisedOn(0), 1);
        Check.due("the bell rang once", x.rung(), 1);
        x.setLine(FIRST, -1);
        interrupt(x, FIRST);
        Check.due("not at all", x.raisedOn(0), 1);
        Check.due("no bell", x.rung(), 1);
        x.put(MEMORY, 11, 2);
        raise(x, FIRST, 0);
        Check.due("the same line", x.raisedOn(0), 1);
    }

    /** "It falls asleep." */
    private static void raisedUntilItSleeps() {
        BusHandler x = board();
        raise(x, FIRST, 3);
        raise(x, SECOND, 3);
        x.addWrite(PROCESSOR, 103, 0);
        x.run(1);
        Check.due("not before the write goes", x.raisedOn(3), 2);
        x.run(1);
        Check.due("as it goes", x.raisedOn(3), 1);
        Check.due("no other line", raisedOnAll(x), 1);
        x.addWrite(PROCESSOR, 103, 1);
        x.run(3);
        Check.due("it does not come back", x.raisedOn(3), 1);
    }

    /** "Or is pulled." */
    private static void raisedUntilItIsPulled() {
        BusHandler x = board();
        raise(x, FIRST, 0);
        raise(x, SECOND, 0);
        x.pull(SECOND);
        Check.due("that of the other one stays", x.raisedOn(0), 1);
        x.pull(FIRST);
        Check.due("none", raisedOnAll(x), 0);
    }

    /** "How many devices raise a line." */
    private static void raisedByTwo() {
        BusHandler x = board();
        Check.due("none", x.raisedOn(2), 0);
        raise(x, SECOND, 2);
        Check.due("one", x.raisedOn(2), 1);
        raise(x, FIRST, 2);
        Check.due("two", x.raisedOn(2), 2);
        x.addRead(PROCESSOR, 100);
        x.run(3);
        Check.due("one again", x.raisedOn(2), 1);
        x.addWait(WAITER, 2);
        x.run(1);
        Check.due("one is enough", x.takenAt(WAITER, 0), 2);
    }

    // ---- what can be taken

    /** "Or it is the number of a line that is raised": 0 to 3, and none of the vectors 4 to 7. */
    private static void linesAreTheFirstVectors() {
        for (int line = 0; line < 4; line++) {
            for (int vector = -1; vector < 8; vector++) {
                BusHandler x = board();
                x.addWait(WAITER, vector);
                raise(x, SECOND, line);
                x.run(1);
                boolean isTaken = vector == line || vector == -1;
                Check.due("the line " + line + " by the vector " + vector, x.stepOf(WAITER), isTaken ? 1 : 0);
                if (isTaken) {
                    Check.due("taken", x.takenAt(WAITER, 0), line);
                }
            }
        }
    }

    /** "A vector can be taken if it is not masked, and a message for it is pending." */
    private static void maskedVectors() {
        for (int vector = 0; vector < 8; vector++) {
            for (int wanted : new int[] {-1, vector}) {
                BusHandler x = board();
                x.setMask(vector, true);
                x.addWait(WAITER, wanted);
                x.addWrite(PROCESSOR, 160 + vector, 0);
                x.run(6);
                Check.due("masked", x.stepOf(WAITER), 0);
                Check.due("but pending", x.pending(vector), 1);
                x.setMask(vector, false);
                Check.due("not before a cycle", x.stepOf(WAITER), 0);
                x.run(1);
                Check.due("not masked any more", x.takenAt(WAITER, 0), vector);
                Check.due("nor pending", x.pending(vector), 0);
                Check.due("not early", x.early(), 0);
            }
        }
    }

    private static void maskedLines() {
        BusHandler x = board();
        x.setMask(3, true);
        x.addWait(WAITER, -1);
        raise(x, FIRST, 3);
        x.run(5);
        Check.due("masked", x.stepOf(WAITER), 0);
        x.setMask(2, true);
        x.setMask(3, false);
        x.run(1);
        Check.due("not masked any more", x.takenAt(WAITER, 0), 3);
    }

    /** "The one with the greatest rank." */
    private static void greatestRank() {
        BusHandler x = board();
        int[] ranks = {3, 8, 0, 9, 1, 7, 2, 5};
        for (int vector = 0; vector < 8; vector++) {
            x.setVectorRank(vector, ranks[vector]);
            x.addWrite(PROCESSOR, 160 + vector, 0);
        }
        x.run(10);
        for (int n = 0; n < 8; n++) {
            x.addWait(WAITER, -1);
        }
        x.run(8);
        int[] order = {3, 1, 5, 7, 0, 6, 4, 2};
        for (int n = 0; n < 8; n++) {
            Check.due("by ranks", x.takenAt(WAITER, n), order[n]);
        }
    }

    /** "Of several the lowest-numbered one." */
    private static void lowestOfSeveral() {
        for (int rank : new int[] {0, 9}) {
            BusHandler x = board();
            for (int vector = 7; vector >= 0; vector--) {
                x.setVectorRank(vector, rank);
                x.addWrite(PROCESSOR, 160 + vector, 0);
            }
            x.run(10);
            for (int n = 0; n < 9; n++) {
                x.addWait(WAITER, -1);
            }
            x.run(9);
            for (int n = 0; n < 8; n++) {
                Check.due("by numbers", x.takenAt(WAITER, n), n);
            }
            Check.due("there was no ninth", x.stepOf(WAITER), 8);
        }
    }

    private static void anyOfMessagesAndLines() {
        BusHandler x = board();
        raise(x, FIRST, 2);
        x.addWrite(PROCESSOR, 161, 0);
        x.addWrite(PROCESSOR, 167, 0);
        x.setVectorRank(7, 4);
        x.setVectorRank(2, 4);
        x.run(4);
        x.addWait(WAITER, -1);
        x.addWait(WAITER, -1);
        x.run(2);
        Check.due("a line as any other one, by its number", x.takenAt(WAITER, 0), 2);
        Check.due("again, for it stays raised", x.takenAt(WAITER, 1), 2);
        x.setMask(2, true);
        x.addWait(WAITER, -1);
        x.addWait(WAITER, -1);
        x.addWait(WAITER, -1);
        x.run(3);
        Check.due("then by the rank", x.takenAt(WAITER, 2), 7);
        Check.due("then what is left", x.takenAt(WAITER, 3), 1);
        Check.due("then nothing", x.stepOf(WAITER), 4);
    }

    /** "A message is taken ahead of a line." */
    private static void messageAheadOfTheLine() {
        BusHandler x = board();
        raise(x, FIRST, 1);
        x.addWrite(PROCESSOR, 161, 0);
        x.addWrite(PROCESSOR, 161, 0);
        x.run(4);
        for (int n = 0; n < 3; n++) {
            x.addWait(WAITER, 1);
        }
        x.run(1);
        Check.due("a message", x.pending(1), 1);
        x.run(1);
        Check.due("the other message", x.pending(1), 0);
        x.run(1);
        Check.due("the line", x.takenAt(WAITER, 2), 1);
        Check.due("stays raised", x.raisedOn(1), 1);
    }

    /** "A line that is taken stays raised." */
    private static void lineThatIsTakenStaysRaised() {
        BusHandler x = board();
        raise(x, FIRST, 0);
        for (int n = 0; n < 16; n++) {
            x.addWait(WAITER, n % 2 == 0 ? 0 : -1);
        }
        x.run(15);
        Check.due("once a cycle", x.stepOf(WAITER), 15);
        x.addRead(PROCESSOR, 100);
        x.run(1);
        Check.due("16 times", x.stepOf(WAITER), 16);
        Check.due("still raised", x.raisedOn(0), 1);
        Check.due("the bell rang once", x.rung(), 1);
    }

    private static void oneMessageAWait() {
        BusHandler x = board();
        for (int n = 0; n < 10; n++) {
            x.addWrite(PROCESSOR, 164, n);
        }
        x.run(12);
        Check.due("ten", x.pending(4), 10);
        for (int n = 9; n >= 0; n--) {
            x.addWait(WAITER, 4);
            x.run(1);
            Check.due("one less", x.pending(4), n);
        }
        x.addWait(WAITER, 4);
        x.run(5);
        Check.due("none is left", x.stepOf(WAITER), 10);
    }

    // ---- the bell

    /** "Once for each message that was made pending for a vector." */
    private static void bellOfMessages() {
        BusHandler x = board();
        Check.due("not yet", x.rung(), 0);
        for (int n = 0; n < 9; n++) {
            x.addWrite(PROCESSOR, 159 + n, 0);
        }
        x.addRead(PROCESSOR, 160);
        x.addWrite(PROCESSOR, 168, 0);
        x.run(20);
        Check.due("8 of 10 writes, and no read", x.rung(), 8);
        x.addWait(WAITER, 0);
        x.run(2);
        Check.due("not when it is taken", x.rung(), 8);
    }

    /** "And once for each time a device began to raise a line." */
    private static void bellOfLines() {
        BusHandler x = board();
        raise(x, FIRST, 0);
        Check.due("once", x.rung(), 1);
        raise(x, FIRST, 0);
        Check.due("not again while it is raised", x.rung(), 1);
        raise(x, SECOND, 0);
        Check.due("but for another device", x.rung(), 2);
        raise(x, FIRST, 3);
        Check.due("and for another line", x.rung(), 3);
        raise(x, FIRST, 0);
        Check.due("and for the first one again", x.rung(), 4);
        x.addRead(PROCESSOR, 100);
        x.run(3);
        raise(x, FIRST, 0);
        Check.due("and behind a read of its register 0", x.rung(), 5);
    }

    /** "Without a router, nothing can be taken"; the bell rings for lines "also without a router". */
    private static void nothingWithoutARouter() {
        BusHandler x = new BusHandler();
        x.addMemory(0, 0, 64);
        x.addProcessor(0);
        x.addDevice(0, 100);
        x.addWrite(PROCESSOR, 101, 8);
        x.addWrite(PROCESSOR, 102, 1);
        raise(x, FIRST, 0);
        Check.due("the bell rang", x.rung(), 1);
        x.addProcessor(0);
        x.addWait(3, 0);
        x.addWait(3, -1);
        x.addWrite(PROCESSOR, 160, 0);
        x.run(20);
        Check.due("nothing was taken", x.stepOf(3), 0);
        Check.due("a write to no router is lost", x.lost(), 1);
        Check.due("and is not pending", x.pending(0), 0);
        Check.due("nor rings the bell", x.rung(), 1);
        x.addRouter(0, 160);
        Check.due("pending messages begin with it", x.pending(0), 0);
        x.run(2);
        Check.due("now both are taken", x.stepOf(3), 2);
    }

    // ---- early

    /**
     * A memory 0 on the bus 0 whose box is full until the cycle 25: agents 6 to 13 read it, and 15 keeps the bus. A
     * bridge 1, which is loose, with processors 2 to 4 below; above, a processor 5 that waits and the router 14.
     */
    private static BusHandler heldBack() {
        BusHandler x = new BusHandler();
        x.addMemory(0, 0, 16);
        x.addBridge(0, 500, 100);
        for (int k = 2; k < 6; k++) {
            x.addProcessor(k < 5 ? 1 : 0);
        }
        for (int k = 6; k < 14; k++) {
            x.addProcessor(0);
            x.setRank(k, 7);
            x.addRead(k, k);
        }
        x.addRouter(0, 160);
        x.addProcessor(0);
        x.setRank(15, 1);
        for (int n = 0; n < 16; n++) {
            x.addWrite(15, 900, n);
        }
        x.setArbiter(0, true);
        x.setRank(1, 9);
        x.setLoose(1, true);
        x.run(9);
        Check.due("the box is full", x.inbox(0), 4);
        return x;
    }

    /** "There is a write by the agent whose message it is." */
    private static void earlyOnlyBehindItsOwnWrite() {
        for (int writer = 2; writer <= 3; writer++) {
            BusHandler x = heldBack();
            x.addWrite(writer, 1, 11);
            x.run(2);
            x.addWrite(3, 161, 0);
            x.run(3);
            Check.due("the write is held back", Check.lineOf(x, 1), "1 bridge bus0 w1");
            Check.due("the message is there", x.pending(1), 1);
            x.addWait(5, 1);
            x.run(1);
            Check.due("taken", x.takenAt(5, 0), 1);
            Check.due("early by its own write, not by that of another agent", x.early(), writer == 3 ? 1 : 0);
        }
    }

    private static void notEarlyWhenTheWriteIsDone() {
        BusHandler x = heldBack();
        x.addWrite(3, 1, 11);
        x.addWrite(3, 161, 0);
        x.run(5);
        Check.due("the message is there", x.pending(1), 1);
        x.run(40);
        Check.due("the write is done", x.cellAt(0, 1), 11);
        x.addWait(5, 1);
        x.run(1);
        Check.due("taken", x.takenAt(5, 0), 1);
        Check.due("in time", x.early(), 0);
    }

    /** "That came into the list of this agent ahead of the message." */
    private static void notEarlyByAWriteBehindIt() {
        BusHandler x = heldBack();
        x.addWrite(3, 161, 0);
        x.addWrite(3, 1, 11);
        x.run(5);
        Check.due("the write is held back", Check.lineOf(x, 1), "1 bridge bus0 w1");
        x.addWait(5, 1);
        x.run(1);
        Check.due("taken", x.takenAt(5, 0), 1);
        Check.due("in time", x.early(), 0);
        x.addWrite(3, 161, 0);
        x.addWait(5, 1);
        x.run(3);
        Check.due("taken", x.stepOf(5), 2);
        Check.due("a message behind the write is early", x.early(), 1);
    }

    /** "There is a write": a read that is still in a list, though its agent waits no more for it, is none. */
    private static void notEarlyByARead() {
        BusHandler x = new BusHandler();
        x.addBridge(0, 500, 100);
        x.addProcessor(0);
        x.addRouter(0, 160);
        x.addProcessor(0);
        for (int k = 4; k < 9; k++) {
            x.addProcessor(1);
            x.setRank(k, 9);
            for (int n = 0; n < 16; n++) {
                x.addWrite(k, 590, n);
            }
        }
        x.setArbiter(1, true);
        x.addRead(1, 510);
        x.addWrite(1, 167, 0);
        x.addWait(3, 7);
        x.run(67);
        Check.due("too late", x.errorAt(1, 0), 't');
        Check.due("the read is held back", Check.lineOf(x, 0), "0 bridge bus0 q510");
        Check.due("taken", x.takenAt(3, 0), 7);
        Check.due("in time", x.early(), 0);
    }

    /** "In any list or box": in a list that leads down, in one that leads up, in a box, in that of the agent. */
    private static void earlyInEachListAndBox() {
        BusHandler up = heldBack();
        up.addWrite(3, 1, 11);
        up.addWrite(3, 160, 0);
        up.addWait(5, 0);
        up.run(4);
        Check.due("in a list that leads up", up.early(), 1);

        BusHandler down = new BusHandler();
        down.addBridge(0, 500, 100);
        down.addProcessor(0);
        down.addRouter(0, 160);
        down.addProcessor(0);
        for (int k = 4; k < 6; k++) {
            down.addProcessor(1);
            down.setRank(k, 9);
            for (int n = 0; n < 16; n++) {
                down.addWrite(k, 590, n);
            }
        }
        down.setArbiter(1, true);
        down.addWrite(1, 510, 0);
        down.addWrite(1, 167, 0);
        down.addWait(3, -1);
        down.run(3);
        Check.due("taken", down.takenAt(3, 0), 7);
        Check.due("in a list that leads down", Check.lineOf(down, 0), "0 bridge bus0 w510");
        Check.due("early", down.early(), 1);

        BusHandler box = new BusHandler();
        box.addMemory(0, 0, 16);
        for (int k = 1; k < 8; k++) {
            box.addProcessor(0);
            box.setRank(k, k < 6 ? 9 : 8);
        }
        box.addRouter(0, 160);
        box.setArbiter(0, true);
        for (int k = 1; k < 6; k++) {
            box.addRead(k, 0);
        }
        box.addWrite(6, 3, 77);
        box.addWrite(6, 164, 0);
        box.addWait(7, 4);
        box.run(8);
        Check.due("taken", box.takenAt(7, 0), 4);
        Check.due("in a box", box.inbox(0), 2);
        Check.due("early", box.early(), 1);
    }

    /** "Those that came first are taken first": of two agents' messages the second one is early. */
    private static void earlyByEachMessageInTurn() {
        for (int first = 2; first <= 3; first++) {
            BusHandler x = heldBack();
            x.addWrite(2, 1, 11);
            x.run(2);
            x.addWrite(first, 161, 0);
            x.run(3);
            x.addWrite(5 - first, 161, 0);
            x.run(3);
            Check.due("two messages", x.pending(1), 2);
            x.addWait(5, 1);
            x.addWait(5, 1);
            x.run(1);
            Check.due("the first one", x.early(), first == 2 ? 1 : 0);
            x.run(1);
            Check.due("the second one", x.early(), 1);
            Check.due("both are taken", x.stepOf(5), 2);
        }
    }

    /** A device below a bridge whose writes are held back; it is pulled, but they and its message are not. */
    private static void earlyByAPulledDevice() {
        BusHandler x = new BusHandler();
        x.addMemory(0, 0, 64);
        x.addProcessor(0);
        x.addBridge(0, 200, 100);
        x.addDevice(1, 200);
        x.addRouter(1, 240);
        x.put(0, 8, 1);
        x.put(0, 10, 1);
        x.setMessage(3, 243);
        x.addWrite(1, 201, 8);
        x.addWrite(1, 202, 1);
        x.addWrite(1, 200, 1);
        x.addProcessor(0);
        x.setRank(5, 9);
        x.run(22);
        for (int n = 0; n < 16; n++) {
            x.addWrite(5, 900, 0);
        }
        x.setArbiter(0, true);
        x.run(4);
        Check.due("its message is pending", x.pending(3), 1);
        Check.due("a write is in the bridge", Check.lineOf(x, 2), "2 bridge bus0 w8");
        Check.due("none in its list", x.pull(3), 0);
        x.addWait(1, 3);
        x.run(1);
        Check.due("taken", x.takenAt(1, 0), 3);
        Check.due("early", x.early(), 1);
    }

    /** "Or ahead of the latest raising by it." */
    private static void earlyByTheLatestRaising() {
        for (int more = 0; more < 2; more++) {
            BusHandler x = board();
            raise(x, FIRST, 0);
            x.setArbiter(0, true);
            x.setRank(PROCESSOR, 9);
            x.put(MEMORY, 8, 1);
            x.put(MEMORY, 10, 1);
            x.put(MEMORY, 11, more == 1 ? 2 : 0);
            x.setRank(MEMORY, 9);
            x.addWrite(PROCESSOR, 100, 1);
            x.run(9);
            x.addProcessor(0);
            x.setRank(6, 8);
            for (int n = 0; n < 16; n++) {
                x.addWrite(6, 900, n);
            }
            x.run(5);
            Check.due("two blocks", x.blocksOf(FIRST), 2);
            Check.due("its writes are in its list", Check.lineOf(x, FIRST), "2 device bus0 w10 w8");
            x.addWait(WAITER, 0);
            x.run(1);
            Check.due("taken", x.takenAt(WAITER, 0), 0);
            Check.due("early, if it was raised behind them", x.early(), 1 - more);
            Check.due("the bell rang once", x.rung(), 1);
        }
    }

    /** "Or by one of the devices that raise the line": the other one has nothing under way. */
    private static void earlyByEitherOfTwo() {
        for (int device = FIRST; device <= SECOND; device++) {
            BusHandler x = board();
            x.setMask(0, true);
            raise(x, FIRST + SECOND - device, 0);
            x.run(5);
            x.setLine(device, 0);
            int ring = device == FIRST ? 8 : 12;
            x.put(MEMORY, ring, 1);
            x.put(MEMORY, ring + 2, 1);
            x.addWrite(PROCESSOR, device == FIRST ? 100 : 104, 1);
            x.run(9);
            x.addProcessor(0);
            x.setRank(6, 8);
            for (int n = 0; n < 16; n++) {
                x.addWrite(6, 900, n);
            }
            x.setRank(MEMORY, 9);
            x.setArbiter(0, true);
            x.run(5);
            Check.due("two raise it", x.raisedOn(0), 2);
            Check.due("one has writes in its list", x.listLength(device, false), 2);
            Check.due("the other one has none", x.listLength(FIRST + SECOND - device, false), 0);
            x.addWait(WAITER, 0);
            x.setMask(0, false);
            x.run(1);
            Check.due("taken", x.takenAt(WAITER, 0), 0);
            Check.due("early", x.early(), 1);
        }
    }

    /** "A message is taken ahead of a line": then the writes of the device that raises the line do not count. */
    private static void earlyByWhatIsTaken() {
        BusHandler x = board();
        x.addWrite(PROCESSOR, 160, 0);
        x.setArbiter(0, true);
        x.setRank(PROCESSOR, 9);
        x.setRank(MEMORY, 9);
        x.setLine(FIRST, 0);
        x.put(MEMORY, 8, 1);
        x.put(MEMORY, 10, 1);
        x.addWrite(PROCESSOR, 100, 1);
        x.run(10);
        x.addProcessor(0);
        x.setRank(6, 8);
        for (int n = 0; n < 16; n++) {
            x.addWrite(6, 900, n);
        }
        x.run(5);
        Check.due("the line is raised", x.raisedOn(0), 1);
        Check.due("behind writes in its list", Check.lineOf(x, FIRST), "2 device bus0 w10 w8");
        Check.due("a message of another agent", x.pending(0), 1);
        x.addWait(WAITER, 0);
        x.addWait(WAITER, -1);
        x.run(1);
        Check.due("the message is taken", x.pending(0), 0);
        Check.due("in time", x.early(), 0);
        x.run(1);
        Check.due("then the line", x.takenAt(WAITER, 1), 0);
        Check.due("early", x.early(), 1);
    }

    /** "There is a write": of any value, and to any address. */
    private static void earlyWhateverIsWritten() {
        for (int value : new int[] {0, 1, 9999}) {
            BusHandler x = heldBack();
            x.addWrite(3, 1, value);
            x.addWrite(3, 161, 0);
            x.run(5);
            Check.due("the write is held back", Check.lineOf(x, 1), "1 bridge bus0 w1");
            x.addWait(5, -1);
            x.run(1);
            Check.due("early", x.early(), 1);
        }
    }

    /** "Those that came first": to the router, not into the lists of their agents. */
    private static void inTheOrderInWhichTheyCame() {
        BusHandler x = heldBack();
        x.setRank(5, 8);
        x.addWrite(2, 1, 11);
        x.run(3);
        Check.due("a write of 2 is held back", Check.lineOf(x, 1), "1 bridge bus0 w1");
        x.addWrite(2, 161, 0);
        x.addWrite(5, 161, 0);
        x.run(2);
        Check.due("that of 5 has come, that of 2 is in the bridge", x.pending(1), 1);
        x.run(1);
        Check.due("both have come", x.pending(1), 2);
        x.addWait(4, 1);
        x.addWait(4, 1);
        x.run(1);
        Check.due("that of 5 is taken, in time", x.early(), 0);
        x.run(1);
        Check.due("that of 2 is taken, early", x.early(), 1);
        Check.due("none is left", x.pending(1), 0);
    }

    /** "Until its register 0 is read", also while the device has doorbells, and is at work. */
    private static void readInTheMidstOfADescriptor() {
        BusHandler x = board();
        raise(x, FIRST, 3);
        x.put(MEMORY, 8, 1);
        x.put(MEMORY, 10, 1);
        x.setLine(FIRST, -1);
        x.setArbiter(0, true);
        x.setRank(PROCESSOR, 9);
        x.addWrite(PROCESSOR, 100, 5);
        x.addRead(PROCESSOR, 100);
        x.run(3);
        Check.due("it is at work", x.stateOf(FIRST), 'o');
        Check.due("the read has gone", x.readsOf(PROCESSOR), 0);
        Check.due("the line", x.raisedOn(3), 0);
        x.run(4);
        Check.due("its doorbells", x.valueAt(PROCESSOR, 0), 5);
    }
}
