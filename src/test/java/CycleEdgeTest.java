/** "A cycle", "Going" and the promises 44 to 51: turns and ranks, asking again, and where messages end. */
public final class CycleEdgeTest {
    public static void main(String[] args) {
        oneToTwoHundredCycles();
        fiveThousandCycles();
        turnsOfSixteen();
        turnBehindTheGreatestOne();
        turnBehindTheOneInTheMidst();
        onlyThoseWithAnOffer();
        aloneAgainAndAgain();
        turnsOfEachBus();
        turnsBehindRanks();
        ranksFromZeroToNine();
        equalRanks();
        cameInAnEarlierCycle();
        asksFromTheNextCycleOn();
        offersDoNotAsk();
        bothListsAsk();
        actsByRisingNumbers();
        writesToNobody();
        readsOfNobodyAtOnce();
        readsOfNobodyInABridge();
        answerForAPulledDevice();
        answerOfNobodyForAPulledDevice();
        answerForAPulledDeviceTakesRoom();
        answerThatIsTooLate();
        answerToTheReadBefore();
        windowThatMovesBehindTheWrite();
        windowThatMovesAheadOfTheBox();
        pendingAsTheReadGoes();
        cachesOfTheBus();
        kindsOfMessages();
        Check.end();
    }

    // ---- numbers of cycles

    /** "The number of cycles, 1 to 200." */
    private static void oneToTwoHundredCycles() {
        BusHandler x = new BusHandler();
        x.addProcessor(0);
        x.addWrite(0, 5, 5);
        Check.thrown("0", Check.ARGUMENT, () -> x.run(0));
        Check.thrown("201", Check.ARGUMENT, () -> x.run(201));
        Check.due("none was run", x.cycles() + x.stepOf(0), 0);
        Check.due("1", x.run(1), 0);
        Check.due("one was run", x.cycles(), 1);
        Check.due("200", x.run(200), 1);
        Check.due("201 in all", x.cycles(), 201);
    }

    /** "If more than 5000 cycles would have been run." */
    private static void fiveThousandCycles() {
        for (int left : new int[] {1, 2, 199, 200}) {
            BusHandler x = new BusHandler();
            for (int n = 0; n < 24; n++) {
                x.run(200);
            }
            if (left < 200) {
                x.run(200 - left);
            }
            Check.thrown("one too many", left < 200 ? Check.STATE : Check.ARGUMENT, () -> x.run(left + 1));
            Check.due("none of them was run", x.cycles(), 5000 - left);
            x.run(left);
            Check.due("just enough", x.cycles(), 5000);
            Check.thrown("not one more", Check.STATE, () -> x.run(1));
        }
    }

    // ---- arbiters

    /** Which agents were granted the bus in some cycles, each one by a letter from 'a' on; '.' for none. */
    private static String grants(BusHandler x, int agents, int cycles) {
        StringBuilder text = new StringBuilder();
        int[] before = listsWithoutSteps(x, agents);
        for (int n = 0; n < cycles; n++) {
            x.run(1);
            int[] now = listsWithoutSteps(x, agents);
            char granted = '.';
            for (int k = 0; k < agents; k++) {
                if (now[k] < before[k]) {
                    granted = (char) ('a' + k);
                }
            }
            text.append(granted);
            before = now;
        }
        return text.toString();
    }

    /** For each agent a number that a message that comes by a step leaves as it is, and one that goes makes less. */
    private static int[] listsWithoutSteps(BusHandler x, int agents) {
        int[] numbers = new int[agents];
        for (int k = 0; k < agents; k++) {
            numbers[k] = x.listLength(k, false) - x.stepOf(k);
        }
        return numbers;
    }

    private static void addWriters(BusHandler x, int count, int writes) {
        for (int k = 0; k < count; k++) {
            x.addProcessor(0);
            addWrites(x, k, writes);
        }
    }

    private static void addWrites(BusHandler x, int processor, int writes) {
        for (int n = 0; n < writes; n++) {
            x.addWrite(processor, 900, n);
        }
    }

    /** "At first to the lowest one"; "going on with the lowest one behind the greatest one". */
    private static void turnsOfSixteen() {
        BusHandler x = new BusHandler();
        addWriters(x, 16, 2);
        Check.due("twice round", grants(x, 16, 7), ".abcdef");
        x.run(9);
        Check.due("the agent 14 was granted last", x.listLength(14, false), 1);
        Check.due("the agent 15, then the lowest one", grants(x, 16, 3), "pab");
    }

    private static void turnBehindTheGreatestOne() {
        BusHandler x = new BusHandler();
        addWriters(x, 16, 0);
        addWrites(x, 15, 1);
        Check.due("the agent 15", grants(x, 16, 2), ".p");
        addWrites(x, 0, 1);
        addWrites(x, 14, 1);
        addWrites(x, 15, 1);
        Check.due("the lowest one behind it", grants(x, 16, 4), ".aop");
    }

    /** "To the first one behind the one granted last, by rising numbers." */
    private static void turnBehindTheOneInTheMidst() {
        BusHandler x = new BusHandler();
        addWriters(x, 8, 0);
        addWrites(x, 4, 1);
        Check.due("the agent 4", grants(x, 8, 2), ".e");
        addWrites(x, 3, 2);
        addWrites(x, 4, 2);
        addWrites(x, 5, 2);
        addWrites(x, 7, 1);
        Check.due("the first one behind it, and itself last of all", grants(x, 8, 8), ".fhdefde");
    }

    /** "Of the agents with an offer": 1 is the next one in turn, but the bridge has no room for its read. */
    private static void onlyThoseWithAnOffer() {
        BusHandler x = fullOfReads();
        x.addRead(5, 501);
        for (int k = 6; k < 8; k++) {
            x.addProcessor(0);
            x.addWrite(k, 900, 0);
        }
        x.run(1);
        Check.due("the agent 4 was granted last", x.sentOn(0), 2);
        x.run(1);
        Check.due("5 has no offer", x.listLength(5, false), 1);
        Check.due("so 6 is the first one behind 4", x.listLength(6, false), 0);
        x.run(1);
        Check.due("7 is the first one behind 6", x.listLength(7, false), 0);
        Check.due("each cycle was used", x.sentOn(0), 4);
    }

    private static void aloneAgainAndAgain() {
        BusHandler x = new BusHandler();
        addWriters(x, 3, 0);
        addWrites(x, 1, 4);
        Check.due("the only one, each time", grants(x, 3, 6), ".bbbb.");
    }

    /** "The one granted last on this bus." */
    private static void turnsOfEachBus() {
        BusHandler x = new BusHandler();
        x.addBridge(0, 500, 100);
        for (int k = 1; k < 5; k++) {
            x.addProcessor(k % 2);
        }
        x.addWrite(2, 5, 0);
        x.addWrite(1, 510, 0);
        x.run(2);
        Check.due("both have gone", x.sentOn(0) + x.sentOn(1), 2);
        for (int k = 1; k < 5; k++) {
            x.addWrite(k, k % 2 == 0 ? 5 : 510, 0);
        }
        x.run(2);
        Check.due("on the bus 0 behind 2", x.listLength(4, false), 0);
        Check.due("so 2 has to wait", x.listLength(2, false), 1);
        Check.due("on the bus 1 behind 1", x.listLength(3, false), 0);
        Check.due("so 1 has to wait", x.listLength(1, false), 1);
    }

    /** "Behind the one granted last on this bus, in either manner." */
    private static void turnsBehindRanks() {
        BusHandler x = new BusHandler();
        addWriters(x, 4, 3);
        x.setRank(2, 1);
        x.setArbiter(0, true);
        Check.due("by ranks", grants(x, 4, 3), ".cc");
        x.setArbiter(0, false);
        Check.due("by turns behind the agent 2", grants(x, 4, 5), "dabcd");
        x.setArbiter(0, true);
        Check.due("by ranks again", grants(x, 4, 5), "aabbd");
    }

    /** "The one with the greatest rank." */
    private static void ranksFromZeroToNine() {
        BusHandler x = new BusHandler();
        addWriters(x, 10, 1);
        for (int k = 0; k < 10; k++) {
            x.setRank(k, (7 * k + 4) % 10);
        }
        x.setArbiter(0, true);
        Check.due("the ranks 9 to 0", grants(x, 10, 12), ".fcjgdahebi.");
    }

    /** "Of several to the lowest-numbered one." */
    private static void equalRanks() {
        BusHandler x = new BusHandler();
        addWriters(x, 5, 2);
        x.setRank(1, 9);
        x.setRank(3, 9);
        x.setArbiter(0, true);
        Check.due("the lowest-numbered ones", grants(x, 5, 11), ".bbddaaccee");
    }

    // ---- earlier cycles, and asking again

    /** "What comes into a list in a cycle, goes in a later one": over three buses, one bus a cycle. */
    private static void cameInAnEarlierCycle() {
        BusHandler x = new BusHandler();
        x.addBridge(0, 500, 100);
        x.addBridge(1, 500, 50);
        x.addProcessor(0);
        x.addMemory(2, 500, 1);
        x.addWrite(2, 500, 7);
        for (int n = 1; n <= 4; n++) {
            Check.due("in the cycle " + n, x.run(1), n == 1 ? 0 : 1);
            Check.due("on the bus 0", x.sentOn(0), n >= 2 ? 1 : 0);
            Check.due("on the bus 1", x.sentOn(1), n >= 3 ? 1 : 0);
            Check.due("on the bus 2", x.sentOn(2), n >= 4 ? 1 : 0);
        }
        Check.due("there", x.cellAt(3, 0), 7);
        BusHandler y = new BusHandler();
        y.addBridge(0, 500, 100);
        y.addBridge(1, 500, 50);
        y.addProcessor(2);
        y.addWrite(2, 5, 7);
        for (int n = 1; n <= 4; n++) {
            y.run(1);
            Check.due("up to the bus 1", y.sentOn(2), n >= 2 ? 1 : 0);
            Check.due("up to the bus 0", y.sentOn(1), n >= 3 ? 1 : 0);
            Check.due("and lost there", y.lost(), n >= 4 ? 1 : 0);
        }
    }

    /** A bridge 0 whose list that leads down is full of reads, as 1 and 2 keep the bus 1; processors 3 to 5 above. */
    private static BusHandler fullOfReads() {
        BusHandler x = new BusHandler();
        x.addBridge(0, 500, 100);
        x.setArbiter(1, true);
        for (int k = 1; k < 6; k++) {
            x.addProcessor(k < 3 ? 1 : 0);
            x.setRank(k, 9);
        }
        for (int n = 0; n < 16; n++) {
            x.addWrite(1, 510, n);
            x.addWrite(2, 510, n);
        }
        x.addRead(3, 501);
        x.addRead(4, 501);
        x.run(3);
        Check.due("full of reads", Check.lineOf(x, 0), "0 bridge bus0 q501 q501");
        return x;
    }

    /** "An agent with such a list in which a message came in an earlier cycle, but which has no offer, asks again." */
    private static void asksFromTheNextCycleOn() {
        BusHandler x = fullOfReads();
        x.addRead(5, 501);
        x.run(1);
        Check.due("not in the cycle in which the message came", x.asksOf(5), 0);
        x.run(1);
        Check.due("from the next one on", x.asksOf(5), 1);
        x.run(4);
        Check.due("once a cycle", x.asksOf(5), 5);
        Check.due("others did not", x.asksOf(0) + x.asksOf(1) + x.asksOf(2) + x.asksOf(3) + x.asksOf(4), 0);
        Check.due("the mean of all", x.meanAsks(), 5.0 / 9.0);
    }

    private static void offersDoNotAsk() {
        BusHandler x = fullOfReads();
        x.addWrite(5, 502, 0);
        x.addRead(5, 501);
        x.run(2);
        Check.due("the write went", x.listLength(0, true), 3);
        x.run(1);
        Check.due("the read asks", x.asksOf(5), 1);
        x.run(20);
        Check.due("the bridge had an offer all the time, but was not granted", x.asksOf(0), 0);
        Check.due("an empty list does not ask", x.asksOf(3), 0);
    }

    /** "With all its lists": both lists of a bridge are full of writes that lead into the other one. */
    private static void bothListsAsk() {
        BusHandler x = new BusHandler();
        x.addBridge(0, 200, 100);
        for (int k = 1; k < 5; k++) {
            x.addProcessor(k < 3 ? 0 : 1);
            x.setRank(k, k % 2 == 1 ? 9 : 8);
        }
        for (int n = 0; n < 16; n++) {
            if (n < 4) {
                x.addWrite(1, 210 + n, n);
                x.addWrite(3, 410 + n, n);
            }
            x.addWrite(2, 900, n);
            x.addWrite(4, 250, n);
        }
        x.setArbiter(0, true);
        x.setArbiter(1, true);
        x.run(5);
        Check.due("8 messages", x.listLength(0, false) + x.listLength(0, true), 8);
        Check.due("with an offer each", x.asksOf(0), 0);
        x.moveWindow(0, 400);
        x.run(1);
        Check.due("none of both lists has an offer", x.asksOf(0), 2);
        x.run(7);
        Check.due("twice a cycle", x.asksOf(0), 16);
        int others = x.asksOf(1) + x.asksOf(2) + x.asksOf(3) + x.asksOf(4);
        Check.due("each of them in the mean", x.meanAsks(), (double) (16 + others) / 13.0);
    }

    // ---- acts

    /** "Each agent acts, by rising numbers." */
    private static void actsByRisingNumbers() {
        BusHandler x = new BusHandler();
        x.addProcessor(0);
        x.addRouter(0, 160);
        x.addProcessor(0);
        x.addProcessor(0);
        for (int k = 0; k < 4; k += k == 0 ? 2 : 1) {
            x.addWait(k, 1);
        }
        x.addProcessor(0);
        x.addWrite(4, 161, 0);
        x.addWrite(4, 161, 0);
        x.run(2);
        Check.due("the lowest one takes it", x.stepOf(0), 1);
        Check.due("none is left for the next one", x.stepOf(2), 0);
        x.run(1);
        Check.due("which takes the next message", x.stepOf(2), 1);
        Check.due("the last one has none", x.stepOf(3), 0);

        for (int before = 0; before < 2; before++) {
            BusHandler y = new BusHandler();
            int device = before == 1 ? 1 : 0;
            if (before == 1) {
                y.addProcessor(0);
                y.addDevice(0, 100);
            } else {
                y.addDevice(0, 100);
                y.addProcessor(0);
            }
            y.addMemory(0, 0, 16);
            y.addRouter(0, 160);
            y.addProcessor(0);
            int[] cells = {1, 0, 1, 1};
            for (int offset = 0; offset < 4; offset++) {
                y.put(2, offset, cells[offset]);
            }
            y.setLine(device, 0);
            y.addWrite(4, 102, 1);
            y.addWrite(4, 100, 1);
            y.addWait(1 - device, 0);
            while (y.raisedOn(0) == 0 && y.cycles() < 50) {
                y.run(1);
            }
            Check.due("a line is seen in the same cycle by those behind", y.stepOf(1 - device), 1 - before);
            y.run(1);
            Check.due("and by all in the next one", y.stepOf(1 - device), 1);
        }
    }

    // ---- where messages end

    /** "A message that goes leaves its list. A write to nobody is lost." */
    private static void writesToNobody() {
        BusHandler x = new BusHandler();
        x.addProcessor(0);
        x.addBridge(0, 500, 100);
        x.addProcessor(1);
        x.addWrite(0, 499, 1);
        x.addWrite(0, 600, 1);
        x.run(1);
        Check.due("it is in the list", x.listLength(0, false), 1);
        x.run(2);
        Check.due("both have left it", x.listLength(0, false), 0);
        Check.due("and are lost", x.lost(), 2);
        x.addWrite(0, 500, 1);
        x.addWrite(2, 599, 1);
        x.run(3);
        Check.due("nobody below", x.lost(), 4);
        Check.due("they have gone all the same", x.sentOn(0) + x.sentOn(1), 5);
    }

    /** "A read of nobody is answered by the error 'n': for an agent whose own read it is, at once." */
    private static void readsOfNobodyAtOnce() {
        BusHandler x = new BusHandler();
        x.addProcessor(0);
        x.addRead(0, 1023);
        x.addRead(0, 0);
        x.run(1);
        Check.due("not before it goes", x.readsOf(0), 0);
        x.run(1);
        Check.due("as it goes", x.errorAt(0, 0), 'n');
        Check.due("no value", x.valueAt(0, 0), -1);
        Check.due("and it acts in the same cycle", Check.lineOf(x, 0), "0 processor bus0 q0");
        Check.due("one message has gone", x.sentOn(0), 1);
        Check.due("a read is never lost", x.lost(), 0);
    }

    /** "In a bridge, the answer comes into its other list." */
    private static void readsOfNobodyInABridge() {
        BusHandler x = new BusHandler();
        x.addBridge(0, 500, 100);
        x.addProcessor(0);
        x.addProcessor(1);
        x.addRead(1, 550);
        x.addRead(2, 700);
        x.run(2);
        Check.due("both reads", Check.lineOf(x, 0), "0 bridge bus0 q700 q550");
        x.run(1);
        Check.due("two answers", Check.lineOf(x, 0), "0 bridge bus0 a a");
        Check.due("one in each list", x.listLength(0, true), 1);
        Check.due("they do not go in the cycle in which they came", x.readsOf(1) + x.readsOf(2), 0);
        x.run(1);
        Check.due("nobody below", x.errorAt(1, 0), 'n');
        Check.due("nobody above", x.errorAt(2, 0), 'n');
    }

    /** A device 3 below the bridges 0 and 1, that reads its ring on the bus 0. */
    private static BusHandler deviceBelow() {
        BusHandler x = new BusHandler();
        x.addBridge(0, 500, 100);
        x.addBridge(1, 500, 50);
        x.addMemory(0, 0, 16);
        x.addDevice(2, 500);
        x.addProcessor(2);
        x.addWrite(4, 502, 1);
        x.addWrite(4, 500, 1);
        return x;
    }

    /** "An answer for an agent that is not there any more is dropped": bridges take it as any other one. */
    private static void answerForAPulledDevice() {
        BusHandler x = deviceBelow();
        x.run(6);
        Check.due("the answer is in the list of the memory", Check.lineOf(x, 2), "2 memory bus0 a");
        Check.due("no message is lost", x.pull(3), 0);
        x.run(1);
        Check.due("down to the bus 1", x.messageAt(0, true, 0), 'a');
        x.run(1);
        Check.due("down to the bus 2", x.messageAt(1, true, 0), 'a');
        long sent = x.sentOn(2);
        Check.due("it goes there, too", x.run(1), 1);
        Check.due("on the bus 2", x.sentOn(2), sent + 1);
        Check.due("and is dropped", x.listLength(0, true) + x.listLength(1, true), 0);
        Check.due("with no error", x.errorsOf(3), 0);
        Check.due("nor was anything lost", x.lost(), 0);
    }

    /** Such an answer needs room in a bridge as any other one. */
    private static void answerForAPulledDeviceTakesRoom() {
        BusHandler x = new BusHandler();
        x.addBridge(0, 500, 100);
        x.addMemory(0, 0, 16);
        x.addDevice(1, 500);
        for (int k = 3; k < 11; k++) {
            x.addProcessor(1);
            x.setRank(k, k < 7 ? 9 : 8);
        }
        x.setRank(2, 9);
        x.setArbiter(1, true);
        x.addWrite(3, 502, 1);
        x.addWrite(3, 500, 1);
        for (int k = 3; k < 7; k++) {
            x.addRead(k, k);
        }
        for (int n = 0; n < 64; n++) {
            x.addWrite(7 + n % 4, 590, n);
        }
        x.run(20);
        Check.due("room for four", x.listLength(0, true), 4);
        Check.due("the fifth one stays", x.listLength(1, false), 1);
        int asked = x.asksOf(1);
        x.pull(2);
        x.run(5);
        Check.due("still no room", x.listLength(0, true), 4);
        Check.due("it asks again", x.asksOf(1), asked + 5);
    }

    /** "The answer comes into its other list": also that to a read of a device that is not there any more. */
    private static void answerOfNobodyForAPulledDevice() {
        BusHandler x = new BusHandler();
        x.addBridge(0, 500, 100);
        x.addDevice(1, 501);
        x.addProcessor(1);
        x.addWrite(2, 502, 900);
        x.addWrite(2, 503, 1);
        x.addWrite(2, 501, 1);
        x.run(5);
        Check.due("its read is in the bridge", Check.lineOf(x, 0), "0 bridge bus0 q900");
        Check.due("no message is lost", x.pull(1), 0);
        Check.due("the read goes", x.run(1), 1);
        Check.due("and its answer is in the other list", Check.lineOf(x, 0), "0 bridge bus0 a");
        Check.due("this leads down", x.listLength(0, true), 1);
        Check.due("it goes, too", x.run(1), 1);
        Check.due("and is dropped", x.listLength(0, true), 0);
        Check.due("without an error", x.errorsOf(1), 0);
    }

    /** A processor below a bridge: its answer is too late, and is dropped on its bus, not before. */
    private static void answerThatIsTooLate() {
        BusHandler x = new BusHandler();
        x.addBridge(0, 500, 100);
        x.addMemory(0, 0, 16);
        x.addProcessor(1);
        x.setArbiter(0, true);
        for (int k = 3; k < 8; k++) {
            x.addProcessor(0);
            x.setRank(k, 9);
        }
        x.setRank(0, 9);
        x.addRead(2, 3);
        x.run(2);
        for (int n = 0; n < 80; n++) {
            x.addWrite(3 + n % 5, 900, n);
        }
        x.run(63);
        Check.due("the 64th time", x.errorAt(2, 0), 't');
        Check.due("the answer is still on its way", x.listLength(1, false), 1);
        x.setRank(1, 9);
        x.run(1);
        Check.due("the bridge takes it", x.messageAt(0, true, 0), 'a');
        long sent = x.sentOn(1);
        x.run(1);
        Check.due("it goes on the bus of the processor", x.sentOn(1), sent + 1);
        Check.due("and is dropped", x.readsOf(2), 1);
        Check.due("it is not cached", x.isCached(2, 3), false);
    }

    /** "Or that does not wait for the answer to this read": it waits for the one to its next read. */
    private static void answerToTheReadBefore() {
        BusHandler x = new BusHandler();
        x.addMemory(0, 0, 16);
        x.addProcessor(0);
        x.setArbiter(0, true);
        for (int k = 2; k < 8; k++) {
            x.addProcessor(0);
            x.setRank(k, 9);
        }
        x.put(0, 3, 33);
        x.put(0, 4, 44);
        x.addRead(1, 3);
        x.addRead(1, 4);
        x.run(1);
        for (int n = 0; n < 96; n++) {
            x.addWrite(2 + n % 6, 900, n);
        }
        x.run(65);
        Check.due("the first one is too late", x.errorAt(1, 0), 't');
        Check.due("the second one is in the list", Check.lineOf(x, 1), "1 processor bus0 q4");
        x.setRank(0, 9);
        x.run(1);
        Check.due("the answer to the first one goes", x.listLength(0, false), 0);
        Check.due("and is dropped, though another one is waited for", x.readsOf(1), 1);
        x.setRank(1, 9);
        x.run(2);
        Check.due("the second one is answered", x.valueAt(1, 1), 44);
        Check.due("its address is cached", x.isCached(1, 4), true);
        Check.due("the first one's is not", x.isCached(1, 3), false);
    }

    /** "For the cell that has this address then." */
    private static void windowThatMovesBehindTheWrite() {
        BusHandler x = new BusHandler();
        x.addMemory(0, 100, 16);
        x.addProcessor(0);
        x.addWrite(1, 100, 7);
        x.addWrite(1, 115, 8);
        x.addWrite(1, 116, 9);
        x.run(1);
        x.moveWindow(0, 101);
        x.run(1);
        Check.due("the address is ahead of the window as it goes", x.lost(), 1);
        Check.due("nothing is written", x.cellAt(0, 0), 0);
        x.run(1);
        Check.due("the cell by the window as it goes", x.cellAt(0, 14), 8);
        x.run(1);
        Check.due("the last one", x.cellAt(0, 15), 9);
    }

    /** A read and a write stay in the box while the window moves: their cells are those of the addresses then. */
    private static void windowThatMovesAheadOfTheBox() {
        for (int base : new int[] {4, 700}) {
            BusHandler x = new BusHandler();
            x.addMemory(0, 0, 16);
            x.setArbiter(0, true);
            for (int k = 1; k < 8; k++) {
                x.addProcessor(0);
                x.setRank(k, k < 6 ? 9 : 8 - k + 6);
                if (k < 6) {
                    x.addRead(k, 4 + k);
                }
            }
            for (int offset = 0; offset < 16; offset++) {
                x.put(0, offset, 50 + offset);
            }
            x.addWrite(6, 12, 77);
            addWrites(x, 7, 8);
            x.run(7);
            Check.due("a read and a write", x.inbox(0), 2);
            x.moveWindow(0, base);
            x.run(30);
            Check.due("the cell that was read", x.valueAt(5, 0), 59);
            for (int offset = 0; offset < 16; offset++) {
                Check.due("the cell that was written", x.cellAt(0, offset), offset == 12 ? 77 : 50 + offset);
            }
        }
    }

    /** "A read of the router is answered by how many messages for this vector are pending." */
    private static void pendingAsTheReadGoes() {
        BusHandler x = new BusHandler();
        x.addRouter(0, 160);
        x.addProcessor(0);
        x.addProcessor(0);
        x.addWrite(1, 160, 0);
        x.addWrite(1, 167, 0);
        x.addWrite(1, 167, 0);
        x.addRead(1, 167);
        x.addRead(1, 160);
        x.addRead(1, 161);
        x.run(5);
        x.addWait(2, 7);
        x.run(20);
        Check.due("two, ahead of the wait", x.valueAt(1, 0), 2);
        Check.due("one", x.valueAt(1, 1), 1);
        Check.due("none", x.valueAt(1, 2), 0);
        Check.due("0 is no error", x.errorAt(1, 2), '-');
    }

    /** "A write that goes on a bus takes its address out of the caches of all processors on this bus." */
    private static void cachesOfTheBus() {
        BusHandler x = new BusHandler();
        x.addProcessor(0);
        x.addMemory(0, 0, 16);
        x.addBridge(0, 500, 100);
        x.addProcessor(1);
        x.addProcessor(0);
        x.addProcessor(0);
        for (int k = 0; k < 6; k += k == 0 ? 3 : 1) {
            x.addRead(k, 7);
            x.addRead(k, 8);
        }
        x.run(60);
        x.addWrite(5, 7, 1);
        x.run(1);
        Check.due("out of its own cache as it comes into the list", x.isCached(5, 7), false);
        Check.due("not yet out of the others", x.isCached(0, 7) && x.isCached(4, 7), true);
        x.run(1);
        Check.due("out of the first one", x.isCached(0, 7), false);
        Check.due("out of the last one", x.isCached(4, 7), false);
        Check.due("not on the other bus", x.isCached(3, 7), true);
        Check.due("no other address", x.isCached(0, 8) && x.isCached(4, 8) && x.isCached(5, 8), true);
        x.moveWindow(1, 100);
        x.addWrite(3, 8, 1);
        x.run(2);
        Check.due("on its way up", x.isCached(0, 8), true);
        x.run(1);
        Check.due("also a write by a bridge, to nobody", x.isCached(0, 8) || x.isCached(5, 8), false);
        Check.due("lost", x.lost(), 1);
    }

    /** "'w' for a write, 'q' for a read, 'a' for an answer", from 0 to the last one. */
    private static void kindsOfMessages() {
        BusHandler x = new BusHandler();
        x.addProcessor(0);
        x.addMemory(0, 0, 16);
        x.addProcessor(0);
        x.setArbiter(0, true);
        x.setRank(2, 9);
        addWrites(x, 2, 8);
        x.addWrite(0, 1, 1);
        x.addWrite(0, 2, 2);
        x.addRead(0, 3);
        x.run(4);
        Check.due("three messages", x.listLength(0, false), 3);
        Check.due("a write", x.messageAt(0, false, 0), 'w');
        Check.due("a write", x.messageAt(0, false, 1), 'w');
        Check.due("a read", x.messageAt(0, false, 2), 'q');
        Check.thrown("none behind them", Check.MISSING, () -> x.messageAt(0, false, 3));
        Check.thrown("none ahead of them", Check.MISSING, () -> x.messageAt(0, false, -1));
        x.run(8);
        Check.due("an answer", x.messageAt(1, false, 0), 'a');
        Check.thrown("one alone", Check.MISSING, () -> x.messageAt(1, false, 1));
    }
}
