/** The promises 1, 11, 12, 45, 49 to 53 and 56 to 61: figures without a cycle, behind one and many, and the line. */
public final class FigureEdgeTest {
    public static void main(String[] args) {
        newObject();
        meansOfAsks();
        sharesOfABus();
        busiestOfOneToFour();
        figuresOfAllCycles();
        countsBeyondOneCycle();
        consistentInEachCycle();
        linesOfEachKind();
        numbersOfTwoDigits();
        addressesInTheLine();
        longestLists();
        charactersOfTheLine();
        lineInPlaceOfTheOneBefore();
        lineStaysAsItWas();
        objectsOfTheirOwn();
        Check.end();
    }

    /** "Creates a board with the bus 0, without agents." */
    private static void newObject() {
        BusHandler x = new BusHandler();
        Check.due("buses", x.buses(), 1);
        Check.due("cycles", x.cycles(), 0);
        Check.due("bell", x.rung(), 0);
        Check.due("lost", x.lost(), 0);
        Check.due("early", x.early(), 0);
        Check.due("overtaken", x.overtaken(), 0);
        Check.due("sent", x.sentOn(0), 0);
        Check.due("ring", x.ringLength(), 0);
        Check.due("consistent", x.isConsistent(), true);
        Check.thrown("no agent 0", Check.OUT, () -> x.kindOf(0));
        Check.thrown("no bus 1", Check.OUT, () -> x.sentOn(1));
        Check.thrown("no line", Check.OUT, () -> x.lineAt(0));
        Check.thrown("no mean", Check.ARITHMETIC, () -> x.meanAsks());
        Check.thrown("no share", Check.ARITHMETIC, () -> x.busyShare(0));
        Check.thrown("no bus goes first", Check.OUT, () -> x.busyShare(1));
        Check.thrown("no greatest share", Check.ARITHMETIC, () -> x.busiestShare());
        Check.due("nothing goes", x.run(1), 0);
        Check.due("the mean of one cycle", x.meanAsks(), 0.0);
        Check.due("the share of one cycle", x.busyShare(0), 0.0f);
        Check.due("the greatest share of one cycle", x.busiestShare(), 0.0f);
    }

    /** A bridge 0 whose lower list can be filled by reads, as 1 and 2 keep the bus 1; agents 3 to 8 are above. */
    private static BusHandler fullOfReads() {
        BusHandler x = new BusHandler();
        x.addBridge(0, 500, 100);
        x.setArbiter(1, true);
        for (int k = 1; k < 9; k++) {
            x.addProcessor(k < 3 ? 1 : 0);
            x.setRank(k, 9);
        }
        for (int n = 0; n < 32; n++) {
            x.addWrite(1 + n % 2, 510, n);
        }
        return x;
    }

    /** "The number of times of all agents divided by the number of cycles, both converted to double." */
    private static void meansOfAsks() {
        BusHandler x = fullOfReads();
        x.run(1);
        Check.due("none", x.meanAsks(), 0.0);
        for (int k = 3; k < 9; k++) {
            x.addRead(k, 501);
        }
        x.run(3);
        Check.due("two have gone, and none has asked", x.meanAsks(), 0.0);
        x.run(1);
        Check.due("four ask", x.meanAsks(), 4.0 / 5.0);
        x.run(1);
        Check.due("and again", x.meanAsks(), 8.0 / 6.0);
        x.run(8);
        Check.due("40 in 14 cycles", x.meanAsks(), 40.0 / 14.0);
        int sum = 0;
        for (int k = 0; k < 9; k++) {
            sum += x.asksOf(k);
        }
        Check.due("the sum of all", sum, 40);
        Check.due("each of the last four", x.asksOf(8), 10);
    }

    /** "The number of messages that have gone on it divided by the number of cycles, both converted to float." */
    private static void sharesOfABus() {
        BusHandler x = new BusHandler();
        x.addProcessor(0);
        x.addBridge(0, 500, 100);
        for (int n = 0; n < 5; n++) {
            x.addWrite(0, n < 2 ? 500 : 900, n);
        }
        for (int n = 1; n <= 11; n++) {
            x.run(1);
            Check.due("on the bus 0", x.busyShare(0), (float) Math.max(0, Math.min(5, n - 1)) / (float) n);
            Check.due("on the bus 1", x.busyShare(1), (float) Math.max(0, Math.min(2, n - 2)) / (float) n);
            Check.due("sent on the bus 0", x.sentOn(0), Math.max(0, Math.min(5, n - 1)));
        }
        Check.thrown("no bus 2", Check.OUT, () -> x.busyShare(2));
        Check.thrown("no bus -1", Check.OUT, () -> x.busyShare(-1));
    }

    /** "The greatest of the busy shares of all buses", wherever it is. */
    private static void busiestOfOneToFour() {
        for (int busiest = 0; busiest < 4; busiest++) {
            BusHandler x = new BusHandler();
            for (int b = 1; b < 4; b++) {
                x.addBridge(0, 100 * b, 100);
            }
            for (int b = 0; b < 4; b++) {
                x.addProcessor(b);
                for (int n = 0; n < (b == busiest ? 3 : 1); n++) {
                    x.addWrite(3 + b, b == 0 ? 900 : 100 * b, n);
                }
            }
            x.run(7);
            for (int b = 0; b < 4; b++) {
                Check.due("the bus " + b, x.busyShare(b), (b == busiest ? 3.0f : 1.0f) / 7.0f);
            }
            Check.due("the greatest one", x.busiestShare(), 3.0f / 7.0f);
        }
    }

    private static void figuresOfAllCycles() {
        BusHandler x = new BusHandler();
        x.addProcessor(0);
        x.addWrite(0, 900, 1);
        for (int n = 1; n <= 25; n++) {
            x.run(200);
            Check.due("cycles", x.cycles(), 200 * n);
        }
        Check.due("one in 5000", x.busyShare(0), 1.0f / 5000.0f);
        Check.due("the greatest one", x.busiestShare(), 1.0f / 5000.0f);
        Check.due("the mean", x.meanAsks(), 0.0);
    }

    /** "How many messages have gone in them, on all buses together": in these cycles alone. */
    private static void countsBeyondOneCycle() {
        BusHandler x = new BusHandler();
        x.addBridge(0, 100, 100);
        x.addProcessor(0);
        x.addProcessor(1);
        for (int n = 0; n < 6; n++) {
            x.addWrite(1, 900, n);
            x.addWrite(2, 150, n);
        }
        Check.due("the first cycle", x.run(1), 0);
        Check.due("two buses, two cycles", x.run(2), 4);
        Check.due("the rest", x.run(100), 8);
        Check.due("nothing more", x.run(100), 0);
        Check.due("all", x.sentOn(0) + x.sentOn(1), 12);
        Check.due("all are lost", x.lost(), 12);
    }

    /** "Returns whether all this is true": it is, in each cycle of a board with full boxes and lists. */
    private static void consistentInEachCycle() {
        BusHandler x = fullOfReads();
        x.addMemory(1, 500, 10);
        x.addMemory(0, 0, 10);
        for (int k = 3; k < 9; k++) {
            for (int n = 0; n < 6; n++) {
                x.addWrite(k, n % 2 == 0 ? 500 + n : n, 10 * k + n);
                x.addRead(k, n % 2 == 0 ? n : 500 + n);
            }
        }
        for (int n = 0; n < 120; n++) {
            x.run(1);
            Check.due("in the cycle " + n, x.isConsistent(), true);
        }
        x.spoil(9, 3);
        x.put(9, 4, 9999);
        Check.due("spoilt or put", x.isConsistent(), true);
        x.setLoose(0, true);
        Check.due("loose", x.isConsistent(), true);
    }

    // ---- the line

    /** "Its number, a blank, "memory", "processor", "device", "router" or "bridge", a blank, "bus" and its number." */
    private static void linesOfEachKind() {
        BusHandler x = new BusHandler();
        for (int b = 0; b < 3; b++) {
            x.addBridge(b, 100, 100);
        }
        x.addMemory(3, 0, 1);
        x.addProcessor(2);
        x.addDevice(1, 0);
        x.addRouter(0, 0);
        String[] due = {"0 bridge bus0", "1 bridge bus1", "2 bridge bus2", "3 memory bus3", "4 processor bus2",
            "5 device bus1", "6 router bus0"};
        for (int k = 0; k < due.length; k++) {
            Check.due("the length", x.writeAgent(k), due[k].length());
            Check.due("the line", Check.lineOf(x, k), due[k]);
        }
        Check.thrown("no agent 7", Check.OUT, () -> x.writeAgent(7));
        Check.thrown("no agent -1", Check.OUT, () -> x.writeAgent(-1));
        x.pull(5);
        Check.due("a pulled device", Check.lineOf(x, 5), "5 device bus1");
    }

    private static void numbersOfTwoDigits() {
        BusHandler x = new BusHandler();
        for (int k = 0; k < 16; k++) {
            x.addDevice(0, 4 * k);
            Check.due("the line", Check.lineOf(x, k), k + " device bus0");
        }
        Check.due("the longest number", x.writeAgent(15), 14);
    }

    /** "The kind of the message, followed by its address if it is no answer", from 0 to beyond 1023. */
    private static void addressesInTheLine() {
        for (int address : new int[] {0, 9, 10, 99, 100, 1000, 1023}) {
            BusHandler x = new BusHandler();
            x.addProcessor(0);
            x.addProcessor(0);
            x.addWrite(0, address, 9999);
            x.addRead(1, address);
            x.run(1);
            Check.due("a write", Check.lineOf(x, 0), "0 processor bus0 w" + address);
            Check.due("a read", Check.lineOf(x, 1), "1 processor bus0 q" + address);
        }
        BusHandler y = new BusHandler();
        y.addDevice(0, 0);
        y.addProcessor(0);
        y.setArbiter(0, true);
        y.setRank(1, 9);
        y.addWrite(1, 1, 9999);
        y.addWrite(1, 2, 1);
        y.addWrite(1, 0, 1);
        y.addRead(1, 3);
        y.run(4);
        Check.due("an address of a device", Check.lineOf(y, 0), "0 device bus0 q9999");
        y.run(1);
        Check.due("an answer has none", Check.lineOf(y, 0), "0 device bus0 q9999 a");
    }

    /** "For a bridge first of the list that leads up and then of the one that leads down." */
    private static void longestLists() {
        BusHandler x = new BusHandler();
        x.addBridge(0, 500, 100);
        for (int k = 1; k < 8; k++) {
            x.addProcessor(k < 4 ? 0 : 1);
            x.setRank(k, k == 3 || k == 7 ? 8 : 9);
        }
        x.setArbiter(0, true);
        x.setArbiter(1, true);
        for (int n = 0; n < 4; n++) {
            x.addWrite(1, 510 + n, n);
            x.addWrite(4, 610 + n, n);
        }
        x.addRead(1, 520);
        x.addRead(2, 521);
        x.addRead(4, 620);
        x.addRead(5, 621);
        for (int n = 0; n < 16; n++) {
            x.addWrite(3, 900, n);
            x.addWrite(7, 590, n);
        }
        x.run(9);
        Check.due("12 messages", Check.lineOf(x, 0),
            "0 bridge bus0 w610 w611 w612 w613 q620 q621 w510 w511 w512 w513 q520 q521");
        Check.due("the length", x.writeAgent(0), 73);
    }

    /** "Index of the character, from 0." */
    private static void charactersOfTheLine() {
        BusHandler x = new BusHandler();
        x.addMemory(0, 0, 1);
        Check.thrown("empty at first", Check.OUT, () -> x.lineAt(0));
        Check.thrown("also ahead of it", Check.OUT, () -> x.lineAt(-1));
        Check.due("the length", x.writeAgent(0), 13);
        String due = "0 memory bus0";
        for (int i = 0; i < 13; i++) {
            Check.due("the character " + i, x.lineAt(i), due.charAt(i));
        }
        for (int index : new int[] {-1, 13, 14, Integer.MIN_VALUE, Integer.MAX_VALUE}) {
            Check.thrown("no character " + index, Check.OUT, () -> x.lineAt(index));
        }
    }

    /** "In place of the line before." */
    private static void lineInPlaceOfTheOneBefore() {
        BusHandler x = new BusHandler();
        x.addMemory(0, 0, 1);
        x.addProcessor(0);
        x.addWrite(1, 1023, 1);
        x.addWrite(1, 1022, 1);
        x.run(1);
        Check.due("the longer one", x.writeAgent(1), 22);
        Check.due("its last character", x.lineAt(21), '3');
        Check.due("the shorter one", x.writeAgent(0), 13);
        Check.thrown("nothing is left of the longer one", Check.OUT, () -> x.lineAt(13));
        Check.due("the shorter one alone", x.lineAt(2), 'm');
        Check.due("the longer one again", x.writeAgent(1), 22);
        Check.due("from its beginning", x.lineAt(0), '1');
        Check.thrown("and no longer than before", Check.OUT, () -> x.lineAt(22));
    }

    /** The line is that of the moment in which it was written. */
    private static void lineStaysAsItWas() {
        BusHandler x = new BusHandler();
        x.addProcessor(0);
        x.addWrite(0, 7, 1);
        x.run(1);
        Check.due("with a message", x.writeAgent(0), 19);
        x.run(5);
        Check.due("the message has gone", x.listLength(0, false), 0);
        Check.due("the line stays", x.lineAt(18), '7');
        Check.thrown("a refused call", Check.OUT, () -> x.writeAgent(1));
        Check.due("does not change it", x.lineAt(17), 'w');
        Check.due("written anew", x.writeAgent(0), 16);
        Check.thrown("it is shorter", Check.OUT, () -> x.lineAt(16));
    }

    /** Two boards know nothing of each other. */
    private static void objectsOfTheirOwn() {
        BusHandler x = new BusHandler();
        BusHandler y = new BusHandler();
        x.addMemory(0, 0, 1);
        x.put(0, 0, 5);
        x.run(7);
        x.setMask(3, true);
        x.writeAgent(0);
        Check.due("cycles", y.cycles(), 0);
        Check.due("the first agent", y.addMemory(0, 0, 1), 0);
        Check.due("its cell", y.cellAt(0, 0), 0);
        Check.due("its mask", y.setMask(3, false), false);
        Check.thrown("its line", Check.OUT, () -> y.lineAt(0));
    }
}
