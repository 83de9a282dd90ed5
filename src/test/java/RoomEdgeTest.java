/** "Messages": how many find room in the lists of a bridge, in a box, in the lists of agents, and with all others. */
public final class RoomEdgeTest {
    private static final int BRIDGE = 0;
    private static final int MEMORY = 1;
    private static final int FIRST_READER = 2;
    private static final int FIRST_BLOCKER = 7;
    private static final int WRITER = 11;
    private static final int FIRST_FAR_READER = 12;

    public static void main(String[] args) {
        for (boolean isUp : new boolean[] {false, true}) {
            fourWrites(isUp);
            twoReads(isUp);
            fourAnswers(isUp);
            eachKindHasItsOwnRoom(isUp);
            answersOfNobodyNeedNoRoom(isUp);
            roomBesideFiveAnswers(isUp);
        }
        boxOfFour();
        boxOfFourReads();
        readStaysInTheBox();
        fourInTheListOfAProcessor();
        readWaitsForTheList();
        fourInTheListOfADevice();
        routerAlwaysHasRoom();
        deviceAlwaysHasRoom();
        processorsAlwaysHaveRoom();
        Check.end();
    }

    /**
     * A bridge whose list to the near bus can't be emptied, as blockers keep this bus for 64 cycles. On the near bus:
     * readers; on the far one: the memory that they read, a writer, and readers of an address across the bridge.
     */
    private static BusHandler blocked(boolean isUp) {
        BusHandler x = new BusHandler();
        int far = isUp ? 1 : 0;
        int near = 1 - far;
        x.addBridge(0, 500, 100);
        x.addMemory(far, isUp ? 500 : 0, 16);
        for (int k = FIRST_READER; k < WRITER; k++) {
            x.addProcessor(near);
            x.setRank(k, k < FIRST_BLOCKER ? 9 : 8);
        }
        for (int k = WRITER; k < 16; k++) {
            x.addProcessor(far);
        }
        for (int k = FIRST_BLOCKER; k < WRITER; k++) {
            for (int n = 0; n < 16; n++) {
                x.addWrite(k, across(isUp), n);
            }
        }
        x.setArbiter(near, true);
        return x;
    }

    /** An address that leads from the far bus to the near one, and is nobody's there. */
    private static int across(boolean isUp) {
        return isUp ? 900 : 590;
    }

    private static int countOf(BusHandler x, boolean isUp, char kind) {
        int count = 0;
        for (int i = 0; i < x.listLength(BRIDGE, !isUp); i++) {
            count += x.messageAt(BRIDGE, !isUp, i) == kind ? 1 : 0;
        }
        return count;
    }

    /** Fills a list up to its room, then lets one message go. */
    private static void fill(BusHandler x, boolean isUp, char kind, int room, int lastSender) {
        for (int n = 0; n < 20; n++) {
            x.run(1);
            Check.due("not more than there is room", countOf(x, isUp, kind) <= room, true);
        }
        Check.due("as many as there is room", countOf(x, isUp, kind), room);
        Check.due("one stays where it was", x.listLength(lastSender, false), 1);
        int asked = x.asksOf(lastSender);
        x.run(5);
        Check.due("and asks again each time", x.asksOf(lastSender), asked + 5);
        Check.due("this is no ring", x.ringLength(), 0);
        Check.due("all is in order", x.isConsistent(), true);
        x.setRank(BRIDGE, 9);
        x.run(1);
        Check.due("the bus 0 goes first, so that it comes at once, or not yet", countOf(x, isUp, kind),
            isUp ? room : room - 1);
        x.setRank(BRIDGE, 0);
        x.run(1);
        Check.due("there was room for one more", countOf(x, isUp, kind), room);
        Check.due("it does not stay", x.listLength(lastSender, false), 0);
    }

    /** "A list of a bridge has room for 4 writes." */
    private static void fourWrites(boolean isUp) {
        BusHandler x = blocked(isUp);
        for (int n = 0; n < 5; n++) {
            x.addWrite(WRITER, across(isUp), n);
        }
        fill(x, isUp, 'w', 4, WRITER);
    }

    /** "2 reads." */
    private static void twoReads(boolean isUp) {
        BusHandler x = blocked(isUp);
        for (int k = 0; k < 3; k++) {
            x.addRead(FIRST_FAR_READER + k, across(isUp));
        }
        fill(x, isUp, 'q', 2, FIRST_FAR_READER + 2);
    }

    /** "And 4 answers." */
    private static void fourAnswers(boolean isUp) {
        BusHandler x = blocked(isUp);
        for (int k = 0; k < 5; k++) {
            x.addRead(FIRST_READER + k, (isUp ? 500 : 0) + k);
        }
        fill(x, isUp, 'a', 4, MEMORY);
    }

    private static void eachKindHasItsOwnRoom(boolean isUp) {
        BusHandler x = blocked(isUp);
        for (int k = 0; k < 5; k++) {
            x.addRead(FIRST_READER + k, (isUp ? 500 : 0) + k);
            x.addWrite(WRITER, across(isUp), k);
        }
        for (int k = 0; k < 4; k++) {
            x.addRead(FIRST_FAR_READER + k, across(isUp));
        }
        x.run(30);
        Check.due("ten messages", x.listLength(BRIDGE, !isUp), 10);
        Check.due("4 writes", countOf(x, isUp, 'w'), 4);
        Check.due("2 reads", countOf(x, isUp, 'q'), 2);
        Check.due("4 answers", countOf(x, isUp, 'a'), 4);
        Check.due("one write stays", x.listLength(WRITER, false), 1);
        Check.due("one answer stays", x.listLength(MEMORY, false), 1);
        Check.due("two reads stay", x.listLength(FIRST_FAR_READER + 2, false) + x.listLength(15, false), 2);
        Check.due("the other list is empty", x.listLength(BRIDGE, isUp), 0);
        Check.due("all is in order", x.isConsistent(), true);
    }

    /** "In a bridge, the answer comes into its other list, whether there is room or not." */
    private static void answersOfNobodyNeedNoRoom(boolean isUp) {
        BusHandler x = blocked(isUp);
        for (int k = 0; k < 4; k++) {
            x.addRead(FIRST_READER + k, (isUp ? 500 : 0) + k);
        }
        x.addRead(FIRST_READER + 4, isUp ? 590 : 900);
        x.setRank(FIRST_READER + 4, 9);
        x.run(30);
        Check.due("the list holds 5 answers", countOf(x, isUp, 'a'), 5);
        Check.due("none of the memory's stays", x.listLength(MEMORY, false), 0);
        Check.due("more than 4 answers are in order", x.isConsistent(), true);
        x.run(60);
        Check.due("the one that is too late", x.errorAt(FIRST_READER, 0), 't');
        Check.due("all have gone", x.listLength(BRIDGE, !isUp), 0);
    }

    /** The answer for which there was no room takes none from the writes and reads. */
    private static void roomBesideFiveAnswers(boolean isUp) {
        BusHandler x = blocked(isUp);
        for (int k = 0; k < 4; k++) {
            x.addRead(FIRST_READER + k, (isUp ? 500 : 0) + k);
        }
        x.addRead(FIRST_READER + 4, isUp ? 590 : 900);
        x.run(25);
        for (int n = 0; n < 5; n++) {
            x.addWrite(WRITER, across(isUp), n);
        }
        x.run(8);
        for (int k = 0; k < 3; k++) {
            x.addRead(FIRST_FAR_READER + k, across(isUp));
        }
        x.run(12);
        Check.due("5 answers", countOf(x, isUp, 'a'), 5);
        Check.due("4 writes beside them", countOf(x, isUp, 'w'), 4);
        Check.due("2 reads beside them", countOf(x, isUp, 'q'), 2);
        Check.due("one write stays", x.listLength(WRITER, false), 1);
        Check.due("one read stays", x.listLength(FIRST_FAR_READER + 2, false), 1);
        Check.due("all is in order", x.isConsistent(), true);
    }

    // ---- boxes

    /** A memory of the rank 0: 4 of 5 answers stay in its list, the fifth read in its box; 14 and 15 keep the bus. */
    private static BusHandler stuckMemory() {
        BusHandler x = new BusHandler();
        x.addMemory(0, 0, 16);
        for (int k = 1; k < 16; k++) {
            x.addProcessor(0);
            x.setRank(k, k < 10 ? 9 : k < 14 ? 8 : 1);
        }
        x.setArbiter(0, true);
        for (int k = 1; k < 6; k++) {
            x.addRead(k, k);
        }
        for (int n = 0; n < 32; n++) {
            x.addWrite(14 + n % 2, 900, n);
        }
        x.run(6);
        Check.due("4 answers in the list", x.listLength(0, false), 4);
        Check.due("a read in the box", x.inbox(0), 1);
        return x;
    }

    /** "A box for 4 messages." */
    private static void boxOfFour() {
        BusHandler x = stuckMemory();
        for (int n = 0; n < 4; n++) {
            x.addWrite(10, n, 31 + n);
        }
        x.run(4);
        Check.due("3 writes behind the read", x.inbox(0), 4);
        Check.due("one write stays", x.listLength(10, false), 1);
        Check.due("it had an offer until now", x.asksOf(10), 0);
        x.run(5);
        Check.due("not more than 4", x.inbox(0), 4);
        Check.due("it asks again each time", x.asksOf(10), 5);
        Check.due("a write behind the read waits", x.cellAt(0, 0), 0);
        Check.due("all is in order", x.isConsistent(), true);
        x.setRank(0, 9);
        x.run(1);
        Check.due("an answer goes, and the read is answered", x.inbox(0), 3);
        Check.due("so that 4 answers are in the list again", x.listLength(0, false), 4);
        x.setRank(0, 0);
        x.run(1);
        Check.due("there was room, and a write is taken", x.inbox(0), 3);
        Check.due("the first write", x.cellAt(0, 0), 31);
        Check.due("none stays", x.listLength(10, false), 0);
        x.run(3);
        Check.due("the box is empty", x.inbox(0), 0);
        Check.due("the last write", x.cellAt(0, 3), 34);
    }

    private static void boxOfFourReads() {
        BusHandler x = stuckMemory();
        for (int k = 6; k < 10; k++) {
            x.addRead(k, k);
        }
        x.run(5);
        Check.due("4 reads", x.inbox(0), 4);
        Check.due("one read stays", x.listLength(9, false), 1);
        Check.due("a box has no other room for reads than for writes", x.asksOf(9), 1);
        x.addWrite(10, 0, 1);
        x.run(3);
        Check.due("nor has it room for a write", x.listLength(10, false), 1);
        Check.due("4 messages", x.inbox(0), 4);
    }

    /** "A read is answered, unless 4 messages are in its list, by which the read stays." */
    private static void readStaysInTheBox() {
        for (int readers = 3; readers <= 5; readers++) {
            BusHandler x = new BusHandler();
            x.addMemory(0, 0, 16);
            x.setArbiter(0, true);
            for (int k = 1; k < 8; k++) {
                x.addProcessor(0);
                x.setRank(k, k < 6 ? 9 : 1);
            }
            for (int k = 1; k <= readers; k++) {
                x.addRead(k, k);
            }
            for (int n = 0; n < 16; n++) {
                x.addWrite(6, 900, n);
            }
            x.run(8);
            Check.due("answers", x.listLength(0, false), Math.min(4, readers));
            Check.due("reads that stay", x.inbox(0), readers - Math.min(4, readers));
            x.addWrite(7, 0, 5);
            x.run(2);
            x.setRank(7, 8);
            x.run(1);
            Check.due("a write is done while the list is full, but not behind a read", x.cellAt(0, 0),
                readers == 5 ? 0 : 5);
        }
    }

    // ---- lists of agents

    /** A processor 1 with no rank, and 2 and 3 that keep the bus. */
    private static BusHandler busyBus() {
        BusHandler x = new BusHandler();
        x.addMemory(0, 0, 16);
        x.setArbiter(0, true);
        for (int k = 1; k < 4; k++) {
            x.addProcessor(0);
            x.setRank(k, k == 1 ? 1 : 9);
        }
        for (int n = 0; n < 32; n++) {
            x.addWrite(2 + n % 2, 900, n);
        }
        return x;
    }

    /** "A write or a read that must come into the list waits as long as 4 messages are in it." */
    private static void fourInTheListOfAProcessor() {
        BusHandler x = busyBus();
        for (int n = 0; n < 6; n++) {
            x.addWrite(1, n, n);
        }
        for (int n = 1; n <= 4; n++) {
            x.run(1);
            Check.due("one write a cycle", x.listLength(1, false), n);
            Check.due("steps", x.stepOf(1), n);
        }
        x.run(3);
        Check.due("not more than 4", x.listLength(1, false), 4);
        Check.due("the fifth one waits", x.stepOf(1), 4);
        x.setRank(1, 9);
        x.run(1);
        Check.due("one goes, and one comes", x.stepOf(1), 5);
        Check.due("4 again", Check.lineOf(x, 1), "1 processor bus0 w1 w2 w3 w4");
    }

    private static void readWaitsForTheList() {
        for (int writes = 3; writes <= 4; writes++) {
            BusHandler x = busyBus();
            for (int n = 0; n < writes; n++) {
                x.addWrite(1, n, n);
            }
            x.addRead(1, 9);
            x.run(10);
            Check.due("3 leave room for it, 4 do not", x.messageAt(1, false, 3), writes == 3 ? 'q' : 'w');
            Check.due("4 messages", x.listLength(1, false), 4);
            x.setRank(1, 9);
            x.run(1);
            Check.due("as one goes, it comes", x.messageAt(1, false, writes - 1), 'q');
        }
    }

    /** "When it must bring a message into its list, it waits as long as 4 messages are in it." */
    private static void fourInTheListOfADevice() {
        for (int length = 3; length <= 5; length++) {
            BusHandler x = new BusHandler();
            x.addMemory(0, 0, 32);
            x.addProcessor(0);
            x.addDevice(0, 100);
            x.addProcessor(0);
            x.put(0, 8, 1);
            x.put(0, 9, 20);
            x.put(0, 10, length);
            for (int n = 0; n < 5; n++) {
                x.load(2, n);
            }
            x.addWrite(1, 101, 8);
            x.addWrite(1, 102, 1);
            x.addWrite(1, 100, 1);
            x.run(11);
            x.setArbiter(0, true);
            x.setRank(3, 9);
            for (int n = 0; n < 16; n++) {
                x.addWrite(3, 900, n);
            }
            x.run(12);
            Check.due("4 messages", x.listLength(2, false), 4);
            String due = length == 3 ? "w20 w21 w22 w10" : "w20 w21 w22 w23";
            Check.due("those that came first", Check.lineOf(x, 2), "2 device bus0 " + due);
            Check.due("what it does next", x.stateOf(2), length == 3 ? 'r' : length == 4 ? 'w' : 'm');
            x.run(12);
            Check.due("then it goes on", x.cellAt(0, 10), length);
        }
    }

    // ---- all others

    /** Readers 3 to 10 of one address, and a writer 11, while 1 and 2 keep the bus for 32 cycles from all others. */
    private static void readByAll(BusHandler x, int address) {
        x.setArbiter(0, true);
        for (int k = 1; k < 12; k++) {
            x.addProcessor(0);
            x.setRank(k, k < 3 ? 1 : 9);
        }
        for (int n = 0; n < 32; n++) {
            x.addWrite(1 + n % 2, 900, n);
        }
        for (int k = 3; k < 11; k++) {
            x.addRead(k, address);
        }
    }

    /** "All other receivers always have room." */
    private static void routerAlwaysHasRoom() {
        BusHandler x = new BusHandler();
        x.addRouter(0, 160);
        readByAll(x, 160);
        x.run(9);
        Check.due("8 answers", x.listLength(0, false), 8);
        for (int n = 0; n < 12; n++) {
            x.addWrite(11, 160, n);
        }
        x.run(13);
        Check.due("12 messages", x.pending(0), 12);
        Check.due("none asked again", x.asksOf(11), 0);
        Check.due("the answers are still there", x.listLength(0, false), 8);
    }

    private static void deviceAlwaysHasRoom() {
        BusHandler x = new BusHandler();
        x.addDevice(0, 160);
        readByAll(x, 162);
        x.run(9);
        Check.due("8 answers", x.listLength(0, false), 8);
        for (int n = 0; n < 12; n++) {
            x.addWrite(11, 160, 1);
        }
        x.run(13);
        Check.due("12 writes", x.register(0, 0), 12);
        Check.due("none asked again", x.asksOf(11), 0);
        Check.due("the answers are still there", x.listLength(0, false), 8);
        x.setRank(0, 9);
        x.run(8);
        Check.due("each one has its answer", x.readsOf(10), 1);
    }

    private static void processorsAlwaysHaveRoom() {
        BusHandler x = busyBus();
        for (int n = 0; n < 3; n++) {
            x.addWrite(1, n, n);
        }
        x.addRead(1, 9);
        x.addWrite(1, 900, 0);
        x.run(6);
        x.setRank(1, 9);
        x.run(4);
        Check.due("its list has been emptied", x.listLength(1, false), 0);
        x.setRank(0, 9);
        x.run(1);
        Check.due("the answer comes", x.readsOf(1), 1);
        Check.due("the memory never asked again", x.asksOf(0), 0);
    }
}
