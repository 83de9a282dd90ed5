/** Lists that hold several kinds of messages: which of them take up room, and what goes ahead of what. */
public final class ListEdgeTest {
    public static void main(String[] args) {
        lateReadTakesUpRoom();
        stepsThatNeedNoRoom();
        answersTakeUpRoomForWrites();
        answerAheadOfTheDevicesOwnRead();
        writesAheadOfALateRead();
        bothInTheWindowOfTheRouter();
        Check.end();
    }

    /**
     * A processor 1 whose read is late at the cycle 65, but still in its list; 2 to 6 keep the bus until the cycle 81.
     * The address 5 is in its cache, and a message for the vector 0 is pending.
     */
    private static BusHandler lateRead() {
        BusHandler x = new BusHandler();
        x.addMemory(0, 0, 16);
        for (int k = 1; k < 7; k++) {
            x.addProcessor(0);
        }
        x.addRouter(0, 163);
        x.put(0, 5, 55);
        x.addRead(1, 5);
        x.addWrite(1, 163, 0);
        x.run(10);
        for (int k = 2; k < 7; k++) {
            x.setRank(k, 9);
            for (int n = 0; n < 16; n++) {
                x.addWrite(k, 900, n);
            }
        }
        x.setArbiter(0, true);
        x.addRead(1, 3);
        x.run(65);
        Check.due("too late", x.errorAt(1, 1), 't');
        Check.due("but in its list", Check.lineOf(x, 1), "1 processor bus0 q3");
        return x;
    }

    /** "As long as 4 messages are in it": a read that is not waited for any more is one of them. */
    private static void lateReadTakesUpRoom() {
        for (int writes = 2; writes <= 3; writes++) {
            for (boolean isRead : new boolean[] {false, true}) {
                BusHandler x = lateRead();
                for (int n = 0; n < writes; n++) {
                    x.addWrite(1, 900 + n, 0);
                }
                if (isRead) {
                    x.addRead(1, 4);
                } else {
                    x.addWrite(1, 950, 0);
                }
                x.run(8);
                String last = writes == 3 ? " w902" : isRead ? " q4" : " w950";
                Check.due("3 leave room, 4 do not", Check.lineOf(x, 1), "1 processor bus0 q3 w900 w901" + last);
            }
        }
    }

    /** "Gives its value at once"; "a wait takes an interrupt": with 4 messages in its list, too. */
    private static void stepsThatNeedNoRoom() {
        BusHandler x = lateRead();
        for (int n = 0; n < 3; n++) {
            x.addWrite(1, 900 + n, 0);
        }
        x.run(3);
        Check.due("4 messages", x.listLength(1, false), 4);
        x.addRead(1, 5);
        x.run(1);
        Check.due("a read from the cache", x.valueAt(1, 2), 55);
        x.addWait(1, -1);
        x.run(1);
        Check.due("a wait", x.takenAt(1, 0), 0);
        Check.due("still 4", x.listLength(1, false), 4);
    }

    /** A device that moves 6 values outward from the cycle 12 on, while 5 to 8 read it and 4 keeps the bus. */
    private static BusHandler writesAndAnswers(int writes, int answers) {
        BusHandler x = new BusHandler();
        x.addMemory(0, 0, 64);
        x.addProcessor(0);
        x.addDevice(0, 101);
        x.addRouter(0, 163);
        for (int k = 4; k < 9; k++) {
            x.addProcessor(0);
            x.setRank(k, k == 4 ? 8 : 9);
        }
        x.put(0, 8, 1);
        x.put(0, 9, 40);
        x.put(0, 10, 6);
        for (int n = 0; n < 6; n++) {
            x.load(2, 31 + n);
        }
        x.addWrite(1, 102, 8);
        x.addWrite(1, 103, 1);
        x.addWrite(1, 101, 1);
        x.setArbiter(0, true);
        x.run(10 + writes);
        for (int k = 5; k < 5 + answers; k++) {
            x.addRead(k, 102);
        }
        for (int n = 0; n < 16; n++) {
            x.addWrite(4, 900, n);
        }
        return x;
    }

    /** "When it must bring a message into its list, it waits as long as 4 messages are in it": whatever they are. */
    private static void answersTakeUpRoomForWrites() {
        BusHandler x = writesAndAnswers(1, 1);
        x.run(6);
        Check.due("3 writes and an answer", Check.lineOf(x, 2), "2 device bus0 w40 a w41 w42");
        Check.due("so the next one waits", x.stateOf(2), 'm');
        x.run(4);
        Check.due("still", x.listLength(2, false), 4);
        BusHandler y = writesAndAnswers(1, 2);
        y.run(8);
        Check.due("2 writes and 2 answers", Check.lineOf(y, 2), "2 device bus0 w40 a w41 a");
        BusHandler z = writesAndAnswers(1, 4);
        z.run(8);
        Check.due("the answers need no room", Check.lineOf(z, 2), "2 device bus0 w40 a w41 a a a");
        z.setRank(2, 9);
        z.run(1);
        Check.due("5 are left: no write comes", Check.lineOf(z, 2), "2 device bus0 a w41 a a a");
        z.run(1);
        Check.due("a write may go ahead, but 4 are left", Check.lineOf(z, 2), "2 device bus0 w41 a a a");
        z.run(1);
        Check.due("3 are left, and one comes", Check.lineOf(z, 2), "2 device bus0 a a a w42");
        z.run(60);
        Check.due("all are written", z.cellAt(0, 45), 36);
    }

    /**
     * A bridge 0 whose list that leads down is full of reads of the processors 3 and 4, as 1 and 2 keep the bus 1; a
     * device 5 whose ring is below, and a processor 6, above.
     */
    private static BusHandler heldRead() {
        BusHandler x = new BusHandler();
        x.addBridge(0, 500, 100);
        x.addProcessor(1);
        x.addProcessor(1);
        x.addProcessor(0);
        x.addProcessor(0);
        x.addDevice(0, 101);
        x.addProcessor(0);
        x.setArbiter(1, true);
        for (int n = 0; n < 32; n++) {
            x.addWrite(1 + n % 2, 590, n);
        }
        x.setRank(1, 9);
        x.setRank(2, 9);
        x.addRead(3, 510);
        x.addRead(4, 511);
        x.addWrite(6, 102, 520);
        x.addWrite(6, 103, 1);
        x.addWrite(6, 101, 1);
        x.run(8);
        Check.due("two reads", Check.lineOf(x, 0), "0 bridge bus0 q510 q511");
        Check.due("a third one has no room", Check.lineOf(x, 5), "5 device bus0 q520");
        return x;
    }

    /** "If it is an answer and the other one is a read": in the list of a device, too. */
    private static void answerAheadOfTheDevicesOwnRead() {
        BusHandler x = heldRead();
        x.addRead(6, 102);
        x.run(2);
        Check.due("an answer behind its read", Check.lineOf(x, 5), "5 device bus0 q520 a");
        int asks = x.asksOf(5);
        x.run(1);
        Check.due("the answer goes", x.valueAt(6, 0), 520);
        Check.due("the read stays", Check.lineOf(x, 5), "5 device bus0 q520");
        Check.due("with an offer it did not ask", x.asksOf(5), asks);
        x.run(1);
        Check.due("without one it does", x.asksOf(5), asks + 1);
        Check.due("nothing counts as overtaken", x.overtaken(), 0);
    }

    /** "If it is a write and the other one is not": in the list of a processor, too. */
    private static void writesAheadOfALateRead() {
        BusHandler x = new BusHandler();
        x.addBridge(0, 500, 100);
        x.addProcessor(0);
        for (int k = 2; k < 8; k++) {
            x.addProcessor(1);
            x.setRank(k, 9);
            for (int n = 0; n < 16; n++) {
                x.addWrite(k, 590, n);
            }
        }
        x.setArbiter(1, true);
        x.addProcessor(0);
        x.addProcessor(0);
        x.addRead(8, 510);
        x.addRead(9, 511);
        x.run(3);
        x.addRead(1, 512);
        x.addWrite(1, 900, 0);
        x.addWrite(1, 901, 0);
        x.run(66);
        Check.due("too late", x.errorAt(1, 0), 't');
        Check.due("the first write has come", Check.lineOf(x, 1), "1 processor bus0 q512 w900");
        x.run(1);
        Check.due("it goes, and the second one comes", Check.lineOf(x, 1), "1 processor bus0 q512 w901");
        x.run(1);
        Check.due("this goes, too", Check.lineOf(x, 1), "1 processor bus0 q512");
        Check.due("nothing counts as overtaken", x.overtaken(), 0);
    }

    /**
     * The window of the router 2, on the bus 2, is on the bus 0 that of two memories: of 3, with a full box, and of 4.
     * Two writes from below are in this window both, and no rule says that the one ahead must not be.
     */
    private static void bothInTheWindowOfTheRouter() {
        BusHandler x = new BusHandler();
        x.addBridge(0, 500, 100);
        x.addBridge(0, 700, 100);
        x.addRouter(2, 8);
        x.addMemory(0, 8, 4);
        x.addMemory(0, 12, 4);
        x.addProcessor(1);
        x.setLoose(0, true);
        x.setArbiter(0, true);
        x.setRank(0, 9);
        for (int k = 6; k < 14; k++) {
            x.addProcessor(0);
            x.setRank(k, 7);
            x.addRead(k, 8);
        }
        x.addProcessor(0);
        for (int n = 0; n < 16; n++) {
            x.addWrite(14, 900, n);
        }
        x.setRank(14, 1);
        x.run(9);
        Check.due("the box is full", x.inbox(3), 4);
        x.addWrite(5, 9, 1);
        x.addWrite(5, 12, 2);
        x.run(4);
        Check.due("the first one stays", Check.lineOf(x, 0), "0 bridge bus0 w9");
        Check.due("the second one has overtaken it", x.overtaken(), 1);
        Check.due("and is written", x.cellAt(4, 0), 2);
        Check.due("the router got nothing", x.rung(), 0);
    }
}
