/** Promises 44 to 55: cycles, what goes in them and what does not, and rings of waiting. */
public final class CycleTest {
    public static void main(String[] args) {
        run();
        listsByNumber();
        inboxAndItsRoom();
        byTurns();
        byRanks();
        turnsBehindRanks();
        asksOf();
        sentOn();
        lost();
        wayOfARead();
        nobodyBelow();
        bothWaysThroughMovedWindows();
        roomOfABridge();
        writeOvertakesRead();
        notInTheSameCycle();
        looseBridgeDown();
        answerOvertakesRead();
        whatMayNotOvertake();
        looseBridge();
        overtaken();
        ringOfABridge();
        ringAndRoom();
        ringAndOvertaking();
        ringThroughABox();
        ringWithTheLowestNumber();
        Check.end();
    }

    private static void run() {
        BusHandler x = new BusHandler();
        x.addProcessor(0);
        x.addWrite(0, 5, 1);
        x.addWrite(0, 6, 1);
        Check.thrown("0 cycles", Check.ARGUMENT, () -> x.run(0));
        Check.thrown("-1 cycles", Check.ARGUMENT, () -> x.run(-1));
        Check.thrown("201 cycles", Check.ARGUMENT, () -> x.run(201));
        Check.thrown("many cycles", Check.ARGUMENT, () -> x.run(Integer.MAX_VALUE));
        Check.due("none was run", x.cycles(), 0);
        Check.due("what comes in a cycle goes later", x.run(1), 0);
        Check.due("two messages", x.run(200), 2);
        Check.due("cycles", x.cycles(), 201);
        for (int n = 0; n < 23; n++) {
            x.run(200);
        }
        x.run(98);
        Check.due("cycles", x.cycles(), 4899);
        Check.thrown("102 more", Check.STATE, () -> x.run(102));
        Check.due("none of them", x.cycles(), 4899);
        Check.due("101 more", x.run(101), 0);
        Check.thrown("one more", Check.STATE, () -> x.run(1));
        Check.thrown("the number comes first", Check.ARGUMENT, () -> x.run(0));
        Check.due("5000 cycles", x.cycles(), 5000);
    }

    private static void listsByNumber() {
        BusHandler x = new BusHandler();
        x.addProcessor(0);
        x.addBridge(0, 500, 100);
        Check.thrown("listLength(2, ..)", Check.OUT, () -> x.listLength(2, false));
        Check.thrown("listLength(-1, ..)", Check.OUT, () -> x.listLength(-1, true));
        Check.thrown("no lower list", Check.ARGUMENT, () -> x.listLength(0, true));
        Check.thrown("messageAt(2, ..)", Check.OUT, () -> x.messageAt(2, true, 0));
        Check.thrown("no lower list", Check.ARGUMENT, () -> x.messageAt(0, true, 0));
        Check.thrown("no message", Check.MISSING, () -> x.messageAt(0, false, 0));
        x.addWrite(0, 550, 1);
        x.addRead(0, 551);
        x.run(1);
        Check.due("a write", x.messageAt(0, false, 0), 'w');
        x.run(1);
        Check.due("the write went down", x.listLength(1, true), 1);
        Check.due("not up", x.listLength(1, false), 0);
        Check.due("a write", x.messageAt(1, true, 0), 'w');
        Check.due("a read", x.messageAt(0, false, 0), 'q');
        Check.thrown("index -1", Check.MISSING, () -> x.messageAt(1, true, -1));
        Check.thrown("index 1", Check.MISSING, () -> x.messageAt(1, true, 1));
        x.run(2);
        Check.due("the answer of nobody leads up", x.messageAt(1, false, 0), 'a');
        Check.due("the lower list is empty", x.listLength(1, true), 0);
    }

    /** A memory of rank 0 that can't answer: four answers in its list, a read ahead in its box. */
    private static BusHandler stuckMemory(int writes) {
        BusHandler x = new BusHandler();
        x.addMemory(0, 0, 16);
        x.setArbiter(0, true);
        for (int k = 1; k < 6; k++) {
            x.addProcessor(0);
            x.setRank(k, 9);
            x.addRead(k, k);
        }
        x.addProcessor(0);
        x.setRank(6, 5);
        for (int n = 0; n < writes; n++) {
            x.addWrite(6, n, 5);
        }
        x.addProcessor(0);
        x.setRank(7, 1);
        for (int n = 0; n < 16; n++) {
            x.addWrite(7, 900, n);
        }
        return x;
    }

    private static void inboxAndItsRoom() {
        BusHandler x = stuckMemory(5);
        Check.thrown("inbox(8)", Check.OUT, () -> x.inbox(8));
        Check.thrown("inbox(-1)", Check.OUT, () -> x.inbox(-1));
        Check.thrown("inbox of a processor", Check.OUT, () -> x.inbox(1));
        x.run(5);
        Check.due("taken in the cycle in which they came", x.inbox(0), 0);
        Check.due("four answers", x.listLength(0, false), 4);
        x.run(1);
        Check.due("the fifth read stays", x.inbox(0), 1);
        x.run(3);
        Check.due("three writes behind it", x.inbox(0), 4);
        Check.due("two are left", x.listLength(6, false), 2);
        x.run(3);
        Check.due("no room", x.inbox(0), 4);
        Check.due("it asks again", x.asksOf(6), 3);
        Check.due("no ring", x.ringLength(), 0);
        x.run(40);
        Check.due("all is done", x.inbox(0), 0);
        Check.due("the fifth read", x.readsOf(5), 1);
        Check.due("the last write", x.cellAt(0, 4), 5);
    }

    private static void byTurns() {
        BusHandler x = new BusHandler();
        for (int k = 0; k < 3; k++) {
            x.addProcessor(0);
            x.addWrite(k, 900, 0);
            x.addWrite(k, 900, 0);
        }
        Check.due("by turns from the lowest one", grants(x, 3, 7), ".012012");
        x.addWrite(0, 900, 0);
        x.addWrite(0, 900, 0);
        x.addWrite(1, 900, 0);
        x.addWrite(1, 900, 0);
        Check.due("behind the greatest one the lowest one", grants(x, 3, 5), ".0101");
        x.addWrite(0, 900, 0);
        x.addWrite(2, 900, 0);
        Check.due("the first one behind the last one", grants(x, 3, 3), ".20");
    }

    private static void byRanks() {
        BusHandler x = new BusHandler();
        x.setArbiter(0, true);
        for (int k = 0; k < 4; k++) {
            x.addProcessor(0);
            x.addWrite(k, 900, 0);
            x.addWrite(k, 900, 0);
        }
        x.setRank(1, 5);
        x.setRank(2, 5);
        x.setRank(3, 9);
        Check.due("by ranks, then by numbers", grants(x, 4, 9), ".33112200");
    }

    private static void turnsBehindRanks() {
        BusHandler x = new BusHandler();
        x.setArbiter(0, true);
        for (int k = 0; k < 3; k++) {
            x.addProcessor(0);
            x.addWrite(k, 900, 0);
            x.addWrite(k, 900, 0);
            x.addWrite(k, 900, 0);
        }
        x.setRank(1, 5);
        Check.due("by ranks", grants(x, 3, 3), ".11");
        x.setArbiter(0, false);
        Check.due("the turns go on behind the one granted by rank", grants(x, 3, 4), "2012");
    }

    /** In each of some cycles, which of the first agents sent a message; all of them write as soon as they can. */
    private static String grants(BusHandler x, int agents, int cycles) {
        StringBuilder text = new StringBuilder();
        for (int n = 0; n < cycles; n++) {
            int[] lengths = new int[agents];
            int[] steps = new int[agents];
            for (int k = 0; k < agents; k++) {
                lengths[k] = x.listLength(k, false);
                steps[k] = x.stepOf(k);
            }
            int gone = x.run(1);
            char granted = '.';
            for (int k = 0; k < agents; k++) {
                if (lengths[k] + x.stepOf(k) - steps[k] > x.listLength(k, false)) {
                    granted = (char) ('0' + k);
                }
            }
            text.append(granted);
            Check.due("one message a cycle", gone, granted == '.' ? 0 : 1);
        }
        return text.toString();
    }

    private static void asksOf() {
        BusHandler x = new BusHandler();
        x.addProcessor(0);
        Check.thrown("asksOf(1)", Check.OUT, () -> x.asksOf(1));
        Check.thrown("asksOf(-1)", Check.OUT, () -> x.asksOf(-1));
        BusHandler y = stuckMemory(5);
        y.run(9);
        Check.due("an offer that is not granted does not ask", y.asksOf(7), 0);
        Check.due("nor one that is", y.asksOf(6), 0);
        y.run(1);
        Check.due("one without room does", y.asksOf(6), 1);
        Check.due("the memory has an offer", y.asksOf(0), 0);
    }

    private static void sentOn() {
        BusHandler x = new BusHandler();
        x.addProcessor(0);
        x.addBridge(0, 500, 100);
        x.addMemory(1, 500, 10);
        Check.thrown("sentOn(2)", Check.OUT, () -> x.sentOn(2));
        Check.thrown("sentOn(-1)", Check.OUT, () -> x.sentOn(-1));
        x.addWrite(0, 500, 1);
        x.addWrite(0, 900, 1);
        x.addRead(0, 500);
        Check.due("all of them on both buses", x.run(10), 7);
        Check.due("on the bus 0", x.sentOn(0), 4);
        Check.due("on the bus 1", x.sentOn(1), 3);
    }

    private static void lost() {
        BusHandler x = new BusHandler();
        x.addProcessor(0);
        x.addBridge(0, 500, 100);
        x.addProcessor(1);
        Check.due("none at first", x.lost(), 0);
        x.addWrite(0, 900, 1);
        x.addRead(0, 900);
        x.run(3);
        Check.due("a write to nobody, no read", x.lost(), 1);
        x.addWrite(0, 500, 1);
        x.run(3);
        Check.due("nobody below", x.lost(), 2);
        x.addWrite(2, 500, 1);
        x.run(2);
        Check.due("in the window, from below", x.lost(), 3);
        x.addWrite(2, 900, 1);
        x.run(3);
        Check.due("nobody above", x.lost(), 4);
    }

    /** From the bus 2 over the bus 1 and the bus 0 to the bus 3, and back. */
    private static void wayOfARead() {
        BusHandler x = new BusHandler();
        x.addBridge(0, 200, 200);
        x.addBridge(1, 300, 50);
        x.addBridge(0, 600, 50);
        x.addProcessor(2);
        x.addMemory(3, 600, 10);
        x.put(4, 3, 33);
        x.addRead(3, 603);
        x.run(1);
        Check.due("in the list of the processor", Check.lineOf(x, 3), "3 processor bus2 q603");
        x.run(1);
        Check.due("up to the bus 1", Check.lineOf(x, 1), "1 bridge bus1 q603");
        x.run(1);
        Check.due("up to the bus 0", Check.lineOf(x, 0), "0 bridge bus0 q603");
        x.run(1);
        Check.due("down to the bus 3", x.messageAt(2, true, 0), 'q');
        x.run(1);
        Check.due("answered", Check.lineOf(x, 4), "4 memory bus3 a");
        x.run(1);
        Check.due("up to the bus 0", x.messageAt(2, false, 0), 'a');
        x.run(1);
        Check.due("down to the bus 1", x.messageAt(0, true, 0), 'a');
        x.run(1);
        Check.due("down to the bus 2", x.messageAt(1, true, 0), 'a');
        x.run(1);
        Check.due("there", x.valueAt(3, 0), 33);
        Check.due("cached", x.isCached(3, 603), true);
    }

    private static void nobodyBelow() {
        BusHandler x = new BusHandler();
        x.addProcessor(0);
        x.addBridge(0, 500, 100);
        x.addRead(0, 510);
        x.run(3);
        Check.due("the answer comes in the cycle of the read", Check.lineOf(x, 1), "1 bridge bus0 a");
        Check.due("not yet", x.readsOf(0), 0);
        x.run(1);
        Check.due("nobody", x.errorAt(0, 0), 'n');
        BusHandler y = new BusHandler();
        y.addBridge(0, 500, 100);
        y.addProcessor(1);
        y.addRead(1, 700);
        y.run(3);
        Check.due("in the list that leads down", y.messageAt(0, true, 0), 'a');
        y.run(1);
        Check.due("nobody above", y.errorAt(1, 0), 'n');
    }

    /** A read that went down is taken up again by the same bridge when its window moves, and its answer finds home. */
    private static void bothWaysThroughMovedWindows() {
        BusHandler x = new BusHandler();
        x.addProcessor(0);
        x.addBridge(0, 500, 100);
        x.addMemory(0, 0, 10);
        x.addRead(0, 505);
        x.run(2);
        Check.due("down", x.messageAt(1, true, 0), 'q');
        x.moveWindow(1, 700);
        x.moveWindow(2, 500);
        x.run(1);
        Check.due("up again", Check.lineOf(x, 1), "1 bridge bus0 q505");
        x.run(1);
        Check.due("to the memory that is there now", Check.lineOf(x, 2), "2 memory bus0 a");
        x.run(1);
        Check.due("answered", x.valueAt(0, 0), 0);
    }

    /** A bus below that is kept busy, so that the bridge can't pass on what it has. */
    private static BusHandler busyBelow() {
        BusHandler x = new BusHandler();
        x.addBridge(0, 500, 100);
        x.setArbiter(1, true);
        for (int k = 1; k < 6; k++) {
            x.addProcessor(1);
            x.setRank(k, 9);
            for (int n = 0; n < 16; n++) {
                x.addWrite(k, 510, 0);
            }
        }
        return x;
    }

    private static void roomOfABridge() {
        BusHandler x = busyBelow();
        for (int k = 6; k < 9; k++) {
            x.addProcessor(0);
            x.addRead(k, 501);
        }
        x.addProcessor(0);
        for (int n = 0; n < 6; n++) {
            x.addWrite(9, 520 + n, 0);
        }
        x.run(12);
        Check.due("2 reads and 4 writes", Check.lineOf(x, 0), "0 bridge bus0 q501 q501 w520 w521 w522 w523");
        Check.due("the third read stays", x.listLength(8, false), 1);
        Check.due("two writes stay", x.listLength(9, false), 2);
        Check.due("they ask again", x.asksOf(8) > 0 && x.asksOf(9) > 0, true);
        Check.due("the bridge does not, for it has an offer", x.asksOf(0), 0);
        Check.due("no ring", x.ringLength(), 0);
        Check.due("all in order", x.isConsistent(), true);
    }

    private static void writeOvertakesRead() {
        BusHandler x = busyBelow();
        for (int k = 6; k < 9; k++) {
            x.addProcessor(0);
            x.addRead(k, 501);
        }
        x.addWrite(8, 502, 0);
        x.run(65);
        Check.due("too late", x.errorAt(8, 0), 't');
        Check.due("it asked again from the cycle 4 on", x.asksOf(8), 62);
        x.run(1);
        Check.due("the write comes behind the read", Check.lineOf(x, 8), "8 processor bus0 q501 w502");
        Check.due("it can't go yet", x.asksOf(8), 63);
        x.run(1);
        Check.due("and goes ahead of it", Check.lineOf(x, 8), "8 processor bus0 q501");
        Check.due("it had an offer", x.asksOf(8), 63);
        Check.due("no write was overtaken", x.overtaken(), 0);
        x.run(1);
        Check.due("the read asks again", x.asksOf(8), 64);
    }

    /** The same below a bridge 0: a memory 1 that the agents 2 to 9 read, and 10 keeps the bus; 11 and 12 are above. */
    private static BusHandler fullBoxBelow() {
        BusHandler x = new BusHandler();
        x.addBridge(0, 500, 100);
        x.setRank(0, 9);
        x.addMemory(1, 500, 16);
        x.setArbiter(1, true);
        for (int k = 2; k < 10; k++) {
            x.addProcessor(1);
            x.setRank(k, 7);
            x.addRead(k, 500);
        }
        x.addProcessor(1);
        x.setRank(10, 1);
        for (int n = 0; n < 16; n++) {
            x.addWrite(10, 599, n);
        }
        x.addProcessor(0);
        x.addProcessor(0);
        x.addRouter(1, 560);
        x.run(9);
        Check.due("the box is full", x.inbox(1), 4);
        return x;
    }

    /** The bus 1 has its turn behind the bus 0, but what came in this cycle waits for the next one. */
    private static void notInTheSameCycle() {
        BusHandler x = fullBoxBelow();
        x.addRead(11, 501);
        x.run(2);
        x.addWrite(12, 590, 0);
        x.run(2);
        Check.due("the write has just come", Check.lineOf(x, 0), "0 bridge bus0 q501 w590");
        x.run(1);
        Check.due("in the next cycle it goes", Check.lineOf(x, 0), "0 bridge bus0 q501");
    }

    private static void looseBridgeDown() {
        BusHandler x = fullBoxBelow();
        x.addWrite(11, 501, 0);
        x.addWrite(11, 563, 0);
        x.run(5);
        Check.due("strict", Check.lineOf(x, 0), "0 bridge bus0 w501 w563");
        x.setLoose(0, true);
        x.run(1);
        Check.due("loose", Check.lineOf(x, 0), "0 bridge bus0 w501");
        Check.due("the message", x.pending(3), 1);
        Check.due("one write was overtaken", x.overtaken(), 1);
    }

    /**
     * A memory 0 on the bus 0 whose box is full until the cycle 25: agents 5 to 12 read it, and 13 keeps the bus.
     * A bridge 1 with a memory 2 and the processors 3 and 15 below; a processor 4 and a router 14 above.
     */
    private static BusHandler fullBox() {
        BusHandler x = new BusHandler();
        x.addMemory(0, 0, 16);
        x.addBridge(0, 500, 100);
        x.addMemory(1, 500, 16);
        x.addProcessor(1);
        x.addProcessor(0);
        x.setArbiter(0, true);
        x.setRank(1, 9);
        x.setRank(4, 8);
        for (int k = 5; k < 13; k++) {
            x.addProcessor(0);
            x.setRank(k, 7);
            x.addRead(k, k);
        }
        x.addProcessor(0);
        x.setRank(13, 1);
        for (int n = 0; n < 16; n++) {
            x.addWrite(13, 900, n);
        }
        x.addRouter(0, 160);
        x.addProcessor(1);
        x.run(9);
        Check.due("the box is full", x.inbox(0), 4);
        return x;
    }

    private static void answerOvertakesRead() {
        BusHandler x = fullBox();
        x.put(2, 6, 66);
        x.addRead(3, 1);
        x.addRead(4, 506);
        x.run(4);
        Check.due("the read is ahead", Check.lineOf(x, 1), "1 bridge bus0 q1 a");
        x.run(1);
        Check.due("the answer goes", x.valueAt(4, 0), 66);
        Check.due("the read stays", Check.lineOf(x, 1), "1 bridge bus0 q1");
        x.run(40);
        Check.due("until there is room", x.readsOf(3), 1);
    }

    private static void whatMayNotOvertake() {
        BusHandler x = fullBox();
        x.addWrite(3, 1, 11);
        x.addRead(4, 506);
        x.run(8);
        Check.due("an answer stays behind a write", Check.lineOf(x, 1), "1 bridge bus0 w1 a");
        x.run(40);
        Check.due("until it has gone", x.readsOf(4), 1);
        Check.due("and it goes", x.cellAt(0, 1), 11);

        BusHandler y = fullBox();
        y.addWrite(3, 1, 11);
        y.addRead(3, 800);
        y.run(8);
        Check.due("a read stays behind a write", Check.lineOf(y, 1), "1 bridge bus0 w1 q800");

        BusHandler z = fullBox();
        z.addRead(3, 1);
        z.run(2);
        z.addRead(15, 800);
        z.run(8);
        Check.due("a read stays behind a read", Check.lineOf(z, 1), "1 bridge bus0 q1 q800");
        z.addWrite(15, 161, 0);
        z.run(50);
        Check.due("then both are answered", z.readsOf(3) + z.readsOf(15), 2);

        BusHandler v = fullBox();
        v.addRead(3, 1);
        v.run(2);
        v.addWrite(15, 161, 0);
        v.run(3);
        Check.due("a write goes ahead of a read", v.pending(1), 1);
        Check.due("the read stays", Check.lineOf(v, 1), "1 bridge bus0 q1");
        Check.due("no write was overtaken", v.overtaken(), 0);

        BusHandler w = fullBox();
        w.addWrite(3, 1, 11);
        w.addWrite(3, 161, 0);
        w.run(8);
        Check.due("a write stays behind a write", Check.lineOf(w, 1), "1 bridge bus0 w1 w161");
        Check.due("in a strict bridge", w.overtaken(), 0);
        w.run(40);
        Check.due("until there is room", w.pending(1), 1);
        Check.due("none was overtaken", w.overtaken(), 0);
        Check.due("all in order", w.isConsistent(), true);
    }

    private static void looseBridge() {
        BusHandler x = fullBox();
        x.setLoose(1, true);
        x.addWrite(3, 1, 11);
        x.addWrite(3, 168, 0);
        x.addWrite(3, 160, 0);
        x.addWrite(3, 167, 0);
        x.run(8);
        Check.due("two to the router went ahead", Check.lineOf(x, 1), "1 bridge bus0 w1 w168");
        Check.due("the first vector", x.pending(0), 1);
        Check.due("the last vector", x.pending(7), 1);
        Check.due("each one of two writes", x.overtaken(), 4);
        Check.due("all in order", x.isConsistent(), true);

        BusHandler y = fullBox();
        y.setLoose(1, true);
        y.addWrite(3, 1, 11);
        y.addWrite(3, 161, 0);
        y.run(2);
        y.setLoose(1, false);
        y.run(6);
        Check.due("strict again", Check.lineOf(y, 1), "1 bridge bus0 w1 w161");
        y.setLoose(1, true);
        y.run(1);
        Check.due("loose again", Check.lineOf(y, 1), "1 bridge bus0 w1");
        Check.due("the message", y.pending(1), 1);
        Check.due("one write was overtaken", y.overtaken(), 1);

        BusHandler z = fullBox();
        z.setLoose(1, true);
        z.addWrite(3, 1, 11);
        z.addRead(4, 506);
        z.run(4);
        z.addWrite(3, 161, 0);
        z.run(3);
        Check.due("ahead of a write and an answer", Check.lineOf(z, 1), "1 bridge bus0 w1 a");
        Check.due("only the write counts", z.overtaken(), 1);
    }

    private static void overtaken() {
        BusHandler x = fullBox();
        Check.due("none", x.overtaken(), 0);
        x.setLoose(1, true);
        x.addWrite(3, 161, 0);
        x.run(5);
        Check.due("nothing was ahead of it", x.overtaken(), 0);
        Check.due("it went", x.pending(1), 1);
        x.addWrite(3, 1, 0);
        x.addWrite(3, 2, 0);
        x.addWrite(3, 3, 0);
        x.addWrite(3, 161, 0);
        x.run(6);
        Check.due("three at once", x.overtaken(), 3);
    }

    /** Both lists of a bridge are full of writes that the moved window leads into the other list. */
    private static BusHandler crossedBridge() {
        return crossedBridge(4, 413);
    }

    private static BusHandler crossedBridge(int writesDown, int lastUp) {
        BusHandler x = new BusHandler();
        x.addBridge(0, 200, 100);
        for (int k = 1; k < 5; k++) {
            x.addProcessor(k < 3 ? 0 : 1);
            x.setRank(k, k < 3 ? 10 - k : 12 - k);
        }
        for (int n = 0; n < 4; n++) {
            if (n < writesDown) {
                x.addWrite(1, 210 + n, n);
            }
            x.addWrite(3, n < 3 ? 410 + n : lastUp, n);
        }
        for (int n = 0; n < 16; n++) {
            x.addWrite(2, 900, n);
            x.addWrite(4, 250, n);
        }
        x.setArbiter(0, true);
        x.setArbiter(1, true);
        return x;
    }

    private static void ringOfABridge() {
        BusHandler x = crossedBridge();
        Check.thrown("no ring", Check.MISSING, () -> x.ringAt(0));
        x.run(5);
        Check.due("both lists are full", Check.lineOf(x, 0),
            "0 bridge bus0 w410 w411 w412 w413 w210 w211 w212 w213");
        Check.due("but they can go", x.ringLength(), 0);
        x.moveWindow(0, 400);
        Check.due("now they can't, whenever they came", x.ringLength(), 2);
        Check.due("the upper list first", Check.ringOf(x), "0 1");
        Check.thrown("index 2", Check.MISSING, () -> x.ringAt(2));
        Check.thrown("index -1", Check.MISSING, () -> x.ringAt(-1));
        int asked = x.asksOf(0);
        x.run(10);
        Check.due("it asks again with both lists", x.asksOf(0) - asked, 20);
        Check.due("the ring stays", Check.ringOf(x), "0 1");
        x.moveWindow(0, 300);
        Check.due("a part of it is not a ring", x.ringLength(), 0);
        x.moveWindow(0, 200);
        Check.due("no ring any more", x.ringLength(), 0);
        x.run(50);
        Check.due("all have gone", x.lost(), 40);
    }

    private static void ringAndRoom() {
        BusHandler x = crossedBridge(3, 413);
        x.run(5);
        x.moveWindow(0, 400);
        Check.due("three writes", Check.lineOf(x, 0), "0 bridge bus0 w410 w411 w412 w413 w210 w211 w212");
        Check.due("with room in one list there is no ring", x.ringLength(), 0);
    }

    /** The last one has just come, but it could go, so that the list does not wait. */
    private static void ringAndOvertaking() {
        BusHandler x = crossedBridge(4, 161);
        x.addRouter(0, 160);
        x.run(5);
        x.moveWindow(0, 400);
        Check.due("strict", Check.ringOf(x), "0 1");
        x.setLoose(0, true);
        Check.due("loose", x.ringLength(), 0);
    }

    /** Up list, down list, box and list of a memory below, each one waiting for the next one. */
    private static void ringThroughABox() {
        BusHandler x = new BusHandler();
        x.addBridge(0, 200, 100);
        x.addMemory(1, 200, 16);
        x.addProcessor(1);
        x.setArbiter(0, true);
        x.addWrite(2, 410, 1);
        for (int k = 3; k < 12; k++) {
            x.addProcessor(0);
            x.setRank(k, 9);
            x.addRead(k, 200 + k);
        }
        x.addProcessor(0);
        x.setRank(12, 5);
        for (int k = 13; k < 15; k++) {
            x.addProcessor(0);
            x.setRank(k, 1);
            for (int n = 0; n < 16; n++) {
                x.addWrite(k, 900, n);
            }
        }
        x.run(22);
        Check.due("a read stays in the box", x.inbox(1), 1);
        for (int n = 0; n < 8; n++) {
            x.addWrite(12, 200, n);
        }
        x.run(13);
        Check.due("the box is full", x.inbox(1), 4);
        Check.due("the list of the memory is full", x.listLength(1, false), 4);
        Check.due("the bridge, too", Check.lineOf(x, 0), "0 bridge bus0 w410 a a a a w200 w200 w200 w200");
        Check.due("the first write can go", x.ringLength(), 0);
        x.moveWindow(0, 400);
        Check.due("now it waits for the lower list", Check.ringOf(x), "0 1 33 2");
        Check.due("length", x.ringLength(), 4);
        x.run(100);
        Check.due("it stays", Check.ringOf(x), "0 1 33 2");
        for (int k = 3; k < 12; k++) {
            Check.due("too late", x.errorAt(k, 0), 't');
        }
        x.moveWindow(0, 200);
        Check.due("no ring any more", x.ringLength(), 0);
        x.run(60);
        Check.due("all answers are dropped", x.listLength(0, false) + x.listLength(0, true), 0);
        Check.due("and no read has another answer", x.readsOf(3), 1);
        Check.due("the last write that found the window", x.cellAt(1, 0), 6);
    }

    /** Two crossed bridges side by side. */
    private static void ringWithTheLowestNumber() {
        BusHandler x = new BusHandler();
        for (int b = 0; b < 2; b++) {
            x.addBridge(0, 200 + 200 * b, 50);
            x.addProcessor(0);
            x.addProcessor(1 + b);
            x.addProcessor(1 + b);
            for (int n = 0; n < 4; n++) {
                x.addWrite(4 * b + 1, 200 + 200 * b, n);
                x.addWrite(4 * b + 2, 700 + 100 * b, n);
            }
            for (int n = 0; n < 16; n++) {
                x.addWrite(4 * b + 3, 240 + 200 * b, n);
            }
            x.setRank(4 * b + 1, 9);
            x.setRank(4 * b + 2, 9);
            x.setRank(4 * b + 3, 8);
            x.setArbiter(1 + b, true);
        }
        x.setArbiter(0, true);
        x.run(9);
        x.moveWindow(4, 800);
        Check.due("the second bridge", Check.ringOf(x), "8 9");
        x.moveWindow(0, 700);
        Check.due("the lowest number of both", Check.ringOf(x), "0 1");
        x.moveWindow(0, 200);
        Check.due("the second bridge alone", Check.ringOf(x), "8 9");
    }
}
