/** "A cycle": each kind of agent offers, is granted by rank and by turn, and asks again; a device may read itself. */
public final class KindEdgeTest {
    private static final int BRIDGE = 3;
    private static final int WRITER = 7;
    private static final int HOG = 8;
    private static final int LAST_MEMORY = 10;
    private static final int[] OFFERING = {0, 1, 2, BRIDGE, WRITER, LAST_MEMORY};

    public static void main(String[] args) {
        eachKindByRank();
        eachKindByTurn();
        eachKindBehindTheFirstAgent();
        lowerBusByRank();
        eachKindAsksAgain();
        registersByAddress();
        vectorsByAddress();
        vectorsOfManyMessages();
        manyReadsOfTheRouter();
        ringInItsOwnRegisters();
        writesToItself();
        Check.end();
    }

    /**
     * Memories 0 and 10, a device 1, a router 2, a bridge 3 and a processor 7 have one message each for the bus 0,
     * which a processor 8 keeps. Those of 0 to 2, and of 10, are answers, that of the bridge comes from 9 below.
     */
    private static BusHandler allOffer() {
        BusHandler x = new BusHandler();
        x.addMemory(0, 0, 16);
        x.addDevice(0, 101);
        x.addRouter(0, 163);
        x.addBridge(0, 500, 100);
        for (int k = 4; k < 10; k++) {
            x.addProcessor(k == 9 ? 1 : 0);
        }
        x.addMemory(0, 200, 16);
        x.addProcessor(0);
        x.addRead(4, 5);
        x.addRead(5, 102);
        x.addRead(6, 164);
        x.addRead(11, 215);
        for (int k = 4; k < 7; k++) {
            x.setRank(k, 9);
        }
        x.setRank(11, 9);
        x.addWrite(WRITER, 900, 0);
        x.addWrite(9, 900, 0);
        for (int n = 0; n < 16; n++) {
            x.addWrite(HOG, 900, n);
        }
        x.setRank(HOG, 8);
        x.setArbiter(0, true);
        x.run(6);
        for (int k : OFFERING) {
            Check.due("a message of " + k, x.listLength(k, false), 1);
        }
        return x;
    }

    /** "To the one with the greatest rank", of whatever kind it is. */
    private static void eachKindByRank() {
        for (int greatest : OFFERING) {
            BusHandler x = allOffer();
            for (int k : OFFERING) {
                x.setRank(k, k == greatest ? 9 : 7);
            }
            x.run(1);
            for (int k : OFFERING) {
                Check.due("left of " + k + ", as " + greatest + " has the greatest rank", x.listLength(k, false),
                    k == greatest ? 0 : 1);
            }
        }
    }

    /** "By rising numbers, going on with the lowest one behind the greatest one." */
    private static void eachKindByTurn() {
        BusHandler x = allOffer();
        x.setArbiter(0, false);
        int[] order = {LAST_MEMORY, 0, 1, 2, BRIDGE, WRITER};
        for (int turn = 0; turn < order.length; turn++) {
            for (int i = 0; i < order.length; i++) {
                Check.due("left of " + order[i], x.listLength(order[i], false), i < turn ? 0 : 1);
            }
            x.run(1);
        }
        Check.due("the last one", x.listLength(WRITER, false), 0);
        int steps = x.stepOf(HOG);
        x.run(1);
        Check.due("then the one that had kept the bus", x.stepOf(HOG), steps + 1);
    }

    /** "The first one behind the one granted last": the memory 0 has one more, but whoever is behind it comes first. */
    private static void eachKindBehindTheFirstAgent() {
        for (int behind : new int[] {1, 2, BRIDGE, WRITER}) {
            BusHandler x = allOffer();
            x.addProcessor(0);
            x.setRank(12, 9);
            x.addRead(12, 6);
            x.run(2);
            Check.due("two answers", x.listLength(0, false), 2);
            for (int k : OFFERING) {
                if (k > 0 && k < behind) {
                    x.setRank(k, 9);
                    x.run(1);
                }
            }
            x.setRank(0, 9);
            x.run(1);
            Check.due("the memory has been granted", x.listLength(0, false), 1);
            x.setArbiter(0, false);
            x.run(1);
            Check.due("then the one behind it", x.listLength(behind, false), 0);
            Check.due("but not the memory again", x.listLength(0, false), 1);
        }
    }

    /** A bridge has one rank, for both of its buses. */
    private static void lowerBusByRank() {
        for (int rank = 0; rank <= 2; rank++) {
            BusHandler x = new BusHandler();
            x.addBridge(0, 500, 100);
            x.addProcessor(0);
            x.addProcessor(1);
            x.setRank(0, rank);
            x.setRank(2, 1);
            x.setArbiter(1, true);
            for (int n = 0; n < 8; n++) {
                x.addWrite(1, 590, n);
                x.addWrite(2, 590, n);
            }
            x.run(6);
            Check.due("behind the rank of the processor it waits", x.listLength(0, true), rank == 0 ? 4 : 1);
            Check.due("and the processor with the same, or a lesser one", x.listLength(2, false), rank == 0 ? 1 : 4);
        }
    }

    /** The list of a bridge 0 that leads down is full of answers; agents of each kind have one more for it. */
    private static void eachKindAsksAgain() {
        int[] addresses = {5, 102, 164};
        for (int kind = 0; kind < 3; kind++) {
            int answering = 11 + kind;
            BusHandler x = fullOfAnswers();
            x.addRead(6, addresses[kind]);
            x.run(6);
            Check.due("its answer", Check.lineOf(x, answering).endsWith(" a"), true);
            int asks = x.asksOf(answering);
            x.run(5);
            Check.due("it asks again in each cycle", x.asksOf(answering), asks + 5);
            int sum = 0;
            for (int k = 0; k < 15; k++) {
                sum += x.asksOf(k);
            }
            Check.due("no one else asks", sum, asks + 5);
            Check.due("in the mean", x.meanAsks(), (double) sum / (double) x.cycles());
        }
    }

    /** The readers 2 to 5 below have read a memory 1; 7 to 10 keep the bus 1; 6 below has not read yet. */
    private static BusHandler fullOfAnswers() {
        BusHandler x = new BusHandler();
        x.addBridge(0, 500, 100);
        x.addMemory(0, 300, 16);
        for (int k = 2; k < 11; k++) {
            x.addProcessor(1);
            x.setRank(k, k < 7 ? 9 : 8);
        }
        x.addMemory(0, 0, 16);
        x.addDevice(0, 101);
        x.addRouter(0, 163);
        x.addProcessor(0);
        for (int n = 0; n < 64; n++) {
            x.addWrite(7 + n % 4, 590, n);
        }
        for (int k = 2; k < 6; k++) {
            x.addRead(k, 300 + k);
        }
        x.setArbiter(1, true);
        x.run(14);
        Check.due("4 answers", Check.lineOf(x, 0), "0 bridge bus0 a a a a");
        return x;
    }

    // ---- windows that lie anywhere

    /** "A device one of 4, for its registers 0 to 3", wherever it begins. */
    private static void registersByAddress() {
        for (int base = 100; base < 108; base++) {
            BusHandler x = new BusHandler();
            x.addDevice(0, base);
            x.addProcessor(0);
            x.addWrite(1, base, 11);
            x.addWrite(1, base + 1, 12);
            x.addRead(1, base);
            x.addRead(1, base + 1);
            x.addRead(1, base + 2);
            x.addRead(1, base + 3);
            x.run(20);
            Check.due("the register 0", x.register(0, 0), 11);
            Check.due("the register 1", x.register(0, 1), 12);
            Check.due("the register 0, read", x.valueAt(1, 0), 11);
            Check.due("the register 1, read", x.valueAt(1, 1), 12);
            Check.due("the register 2, read", x.valueAt(1, 2), 0);
            Check.due("the register 3, read", x.valueAt(1, 3), 1);
            x.addWrite(1, base + 3, 0);
            x.run(2);
            Check.due("asleep", x.register(0, 3), 0);
        }
    }

    /** "A router one of 8, for the vectors 0 to 7", wherever it begins. */
    private static void vectorsByAddress() {
        for (int base = 160; base < 168; base++) {
            BusHandler x = new BusHandler();
            x.addRouter(0, base);
            x.addProcessor(0);
            for (int vector = 0; vector < 8; vector++) {
                x.addWrite(1, base + vector, 0);
                x.run(2);
                Check.due("the vector of the address", x.pending(vector), 1);
                Check.due("and no other one", x.rung(), vector + 1);
            }
            x.addRead(1, base + 7);
            x.run(4);
            Check.due("how many are pending", x.valueAt(1, 0), 1);
        }
    }

    /** There is no bound on what is pending. */
    private static void vectorsOfManyMessages() {
        BusHandler x = new BusHandler();
        x.addRouter(0, 163);
        for (int k = 1; k < 16; k++) {
            x.addProcessor(0);
            for (int n = 0; n < 15; n++) {
                x.addWrite(k, 170, n);
            }
        }
        x.run(200);
        x.run(30);
        Check.due("all are pending", x.pending(7), 225);
        Check.due("the bell", x.rung(), 225);
        x.addRead(1, 170);
        x.addRead(2, 163);
        x.run(8);
        Check.due("a read of the vector", x.valueAt(1, 0), 225);
        Check.due("a read of another one", x.valueAt(2, 0), 0);
        Check.due("a read takes none", x.pending(7), 225);
    }

    /** "All other receivers always have room": 12 answers are in the list of the router at once. */
    private static void manyReadsOfTheRouter() {
        BusHandler x = new BusHandler();
        x.addRouter(0, 163);
        for (int k = 1; k < 13; k++) {
            x.addProcessor(0);
            x.setRank(k, 9);
            x.addRead(k, 163);
        }
        x.setArbiter(0, true);
        x.run(13);
        Check.due("12 answers", x.listLength(0, false), 12);
        x.run(12);
        Check.due("all have gone", x.listLength(0, false), 0);
        for (int k = 1; k < 13; k++) {
            Check.due("each one has come", x.readsOf(k), 1);
        }
    }

    // ---- a device and itself

    /**
     * Its registers are a descriptor: one doorbell as the owner, the base as the address, the size as the length, and
     * awake as the flags, for a block inward. So it reads itself, and the answers come back over the bus.
     */
    private static void ringInItsOwnRegisters() {
        BusHandler x = new BusHandler();
        x.addMemory(0, 0, 16);
        x.addProcessor(0);
        x.addDevice(0, 101);
        x.put(0, 8, 1);
        x.put(0, 9, 5);
        x.put(0, 10, 1);
        x.put(0, 11, 1);
        x.put(0, 5, 55);
        x.setLine(2, 2);
        x.addWrite(1, 102, 8);
        x.addWrite(1, 103, 1);
        x.addWrite(1, 101, 1);
        x.run(20);
        Check.due("a first descriptor has raised the line", x.raisedOn(2), 1);
        x.setLine(2, -1);
        x.addWrite(1, 102, 101);
        x.addWrite(1, 101, 1);
        x.run(3);
        Check.due("it reads its own owner", Check.lineOf(x, 2), "2 device bus0 q101");
        x.run(1);
        Check.due("answers itself", Check.lineOf(x, 2), "2 device bus0 a");
        Check.due("by which its register 0 is read", x.raisedOn(2), 0);
        x.run(1);
        Check.due("and goes on with the answer", x.stateOf(2), 'a');
        x.run(30);
        Check.due("it has received", x.received(2), 2);
        Check.due("its own doorbells", x.receivedAt(2, 1), 1);
        Check.due("ended", x.blocksOf(2), 2);
        Check.due("without an error", x.errorsOf(2), 0);
        Check.due("the size is what was moved", x.register(2, 2), 1);
        Check.due("no doorbells", x.register(2, 0), 0);
    }

    /** A value that it moves to its own register 0 is one doorbell more; one to its register 3 lets it sleep. */
    private static void writesToItself() {
        for (int target = 101; target <= 104; target += 3) {
            BusHandler x = new BusHandler();
            x.addMemory(0, 0, 16);
            x.addProcessor(0);
            x.addDevice(0, 101);
            x.put(0, 8, 1);
            x.put(0, 9, target);
            x.put(0, 10, 1);
            x.load(2, target == 101 ? 1 : 0);
            x.addWrite(1, 102, 8);
            x.addWrite(1, 103, 1);
            x.addWrite(1, 101, 1);
            x.run(12);
            Check.due("its write", Check.lineOf(x, 2), "2 device bus0 w" + target);
            x.run(1);
            Check.due("doorbells", x.register(2, 0), target == 101 ? 2 : 0);
            Check.due("awake", x.register(2, 3), target == 101 ? 1 : 0);
            x.run(30);
            Check.due("the first descriptor", x.blocksOf(2), target == 101 ? 1 : 0);
            Check.due("the second one has no owner any more", x.lastError(2), target == 101 ? 'o' : '-');
        }
    }
}
