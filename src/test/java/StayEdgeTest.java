/** What the document does not let sleep, waking, pulling, moving, masking and adding change stays as it was. */
public final class StayEdgeTest {
    private static final int MEMORY = 0;
    private static final int PROCESSOR = 1;
    private static final int DEVICE = 2;
    private static final int ROUTER = 3;

    public static void main(String[] args) {
        sleepLeavesTheFigures();
        sleepLeavesHowItInterrupts();
        sleepingOnceMore();
        wakingAnAwakeDevice();
        wakingASleepingDevice();
        pullingLeavesTheFigures();
        pullingLeavesHowItInterrupts();
        pullingLeavesTheAsks();
        tellingAPulledDevice();
        movingADevice();
        movingTheRouter();
        registersThatLeaveTheIndex();
        masksAndRanksLeaveWhatIsPending();
        agentsThatAreAddedLeaveTheTurn();
        Check.end();
    }

    /** A memory at 0, a processor, a device at 101, a router at 163. */
    private static BusHandler board() {
        BusHandler x = new BusHandler();
        x.addMemory(0, 0, 64);
        x.addProcessor(0);
        x.addDevice(0, 101);
        x.addRouter(0, 163);
        return x;
    }

    private static void putDescriptor(BusHandler x, int at, int address, int length, int flags) {
        x.put(MEMORY, at, 1);
        x.put(MEMORY, at + 1, address);
        x.put(MEMORY, at + 2, length);
        x.put(MEMORY, at + 3, flags);
    }

    private static void start(BusHandler x, int ringSize, int doorbells) {
        x.addWrite(PROCESSOR, 102, 8);
        x.addWrite(PROCESSOR, 103, ringSize);
        x.addWrite(PROCESSOR, 101, doorbells);
    }

    private static void setRegister(BusHandler x, int index, int value) {
        x.addWrite(PROCESSOR, 101 + index, value);
        x.run(2);
    }

    /** A device that has received a value, has met the error 'l', has two values to write, and a rank. */
    private static BusHandler worked() {
        BusHandler x = board();
        x.put(MEMORY, 40, 9999);
        putDescriptor(x, 8, 40, 1, 1);
        putDescriptor(x, 12, 40, 9, 1);
        start(x, 4, 2);
        x.load(DEVICE, 31);
        x.load(DEVICE, 32);
        x.setRank(DEVICE, 4);
        x.run(40);
        figuresAre("it has worked", x);
        Check.due("the index of the next descriptor", x.ringIndex(DEVICE), 2);
        return x;
    }

    private static void figuresAre(String what, BusHandler x) {
        Check.due(what + ": base", x.register(DEVICE, 1), 8);
        Check.due(what + ": size", x.register(DEVICE, 2), 4);
        Check.due(what + ": received", x.received(DEVICE), 1);
        Check.due(what + ": the value received", x.receivedAt(DEVICE, 0), 9999);
        Check.due(what + ": blocks", x.blocksOf(DEVICE), 2);
        Check.due(what + ": errors", x.errorsOf(DEVICE), 1);
        Check.due(what + ": the last error", x.lastError(DEVICE), 'l');
    }

    // ---- sleep

    /** "Has no doorbells, has the ring index 0, is idle, raises no line, and waits for no answer": nothing else. */
    private static void sleepLeavesTheFigures() {
        BusHandler x = worked();
        setRegister(x, 3, 0);
        Check.due("asleep", x.register(DEVICE, 3), 0);
        figuresAre("asleep", x);
        Check.due("the ring index is 0", x.ringIndex(DEVICE), 0);
        Check.due("its data", x.load(DEVICE, 33), 3);
        Check.due("its rank", x.setRank(DEVICE, 4), 4);
        setRegister(x, 3, 9999);
        Check.due("awake", x.register(DEVICE, 3), 1);
        figuresAre("awake", x);
        putDescriptor(x, 8, 50, 8, 0);
        setRegister(x, 0, 1);
        x.run(30);
        Check.due("all of its data are written", x.cellAt(MEMORY, 10), 3);
        Check.due("the first one", x.cellAt(MEMORY, 50), 31);
        Check.due("the one that came in its sleep", x.cellAt(MEMORY, 52), 33);
    }

    private static void sleepLeavesHowItInterrupts() {
        for (int way = 0; way < 3; way++) {
            BusHandler x = worked();
            if (way == 0) {
                x.setMessage(DEVICE, 164);
            } else if (way == 1) {
                x.setLine(DEVICE, 3);
            }
            setRegister(x, 3, 0);
            setRegister(x, 3, 1);
            putDescriptor(x, 8, 50, 1, 0);
            setRegister(x, 0, 1);
            x.run(30);
            Check.due("it has ended a block", x.blocksOf(DEVICE), 3);
            Check.due("by a write", x.pending(1), way == 0 ? 1 : 0);
            Check.due("by its line", x.raisedOn(3), way == 1 ? 1 : 0);
            setRegister(x, 3, 0);
            Check.due("the line that is told", x.setLine(DEVICE, 2), way == 1 ? 3 : -1);
            BusHandler y = worked();
            y.setMessage(DEVICE, 164);
            setRegister(y, 3, 0);
            Check.due("the address that is told", y.setMessage(DEVICE, 0), 164);
        }
    }

    private static void sleepingOnceMore() {
        BusHandler x = worked();
        setRegister(x, 3, 0);
        setRegister(x, 3, 0);
        Check.due("still asleep", x.register(DEVICE, 3), 0);
        Check.due("a write to its register 3 is not lost", x.lost(), 0);
        figuresAre("still asleep", x);
    }

    /** "One of another value wakes it": to one that is awake it does nothing, whatever it is doing. */
    private static void wakingAnAwakeDevice() {
        StringBuilder states = new StringBuilder();
        for (int cycles = 14; cycles < 48; cycles++) {
            BusHandler x = twoDescriptors(cycles, 104);
            BusHandler y = twoDescriptors(cycles, 900);
            states.append(x.stateOf(DEVICE));
            for (int n = 0; n < 25; n++) {
                String what = "written in the cycle " + cycles + ", " + n + " later";
                Check.due(what, stateOf(x), stateOf(y));
                x.run(1);
                y.run(1);
            }
            x.run(15);
            y.run(15);
            Check.due("at last", stateOf(x), stateOf(y));
            Check.due("all is done", x.blocksOf(DEVICE), 2);
            Check.due("the bus has carried the same", x.sentOn(0), y.sentOn(0));
        }
        for (char state : "ioalfmwrn".toCharArray()) {
            Check.due("in the state " + state, states.indexOf(String.valueOf(state)) >= 0, true);
        }
    }

    /** The first descriptor raises a line, the second one writes a message; a write of 1 to an address comes in. */
    private static BusHandler twoDescriptors(int cycles, int address) {
        BusHandler x = board();
        putDescriptor(x, 8, 40, 2, 1);
        putDescriptor(x, 12, 50, 2, 0);
        x.load(DEVICE, 31);
        x.load(DEVICE, 32);
        x.setLine(DEVICE, 1);
        start(x, 2, 2);
        x.run(cycles);
        x.setMessage(DEVICE, 165);
        x.addWrite(PROCESSOR, address, 1);
        return x;
    }

    private static String stateOf(BusHandler x) {
        StringBuilder text = new StringBuilder();
        text.append(x.stateOf(DEVICE)).append(' ').append(x.ringIndex(DEVICE));
        for (int i = 0; i < 4; i++) {
            text.append(' ').append(x.register(DEVICE, i));
        }
        text.append(' ').append(x.received(DEVICE)).append(' ').append(x.blocksOf(DEVICE));
        text.append(' ').append(x.errorsOf(DEVICE)).append(' ').append(x.raisedOn(1)).append(' ').append(x.pending(2));
        return text.append(' ').append(x.listLength(DEVICE, false)).toString();
    }

    private static void wakingASleepingDevice() {
        BusHandler x = board();
        setRegister(x, 3, 0);
        setRegister(x, 0, 5);
        setRegister(x, 2, 8);
        Check.due("both are lost", x.lost(), 2);
        setRegister(x, 3, 2);
        Check.due("any other value wakes it", x.register(DEVICE, 3), 1);
        Check.due("what was lost does not come back", x.register(DEVICE, 0) + x.register(DEVICE, 2), 0);
    }

    // ---- pulling

    /** "Its registers and figures stay." */
    private static void pullingLeavesTheFigures() {
        BusHandler x = worked();
        x.pull(DEVICE);
        figuresAre("pulled", x);
        Check.due("its ring index", x.ringIndex(DEVICE), 2);
        Check.due("its rank", x.setRank(DEVICE, 7), 4);
        Check.due("which is set as before", x.setRank(DEVICE, 0), 7);
        x.run(80);
        figuresAre("some cycles later", x);
    }

    private static void pullingLeavesHowItInterrupts() {
        BusHandler x = worked();
        x.setLine(DEVICE, 3);
        x.pull(DEVICE);
        Check.due("the line", x.setLine(DEVICE, -1), 3);
        BusHandler y = worked();
        y.setMessage(DEVICE, 164);
        y.pull(DEVICE);
        Check.due("the address", y.setMessage(DEVICE, 3), 164);
    }

    /** A bridge 0 whose list that leads down is full of reads, as 1 and 2 keep the bus 1; a device 5 reads there. */
    private static void pullingLeavesTheAsks() {
        BusHandler x = new BusHandler();
        x.addBridge(0, 500, 100);
        x.addProcessor(1);
        x.addProcessor(1);
        x.addProcessor(0);
        x.addProcessor(0);
        x.addDevice(0, 101);
        x.addProcessor(0);
        x.setArbiter(1, true);
        for (int n = 0; n < 32; n++) {
            x.addWrite(1 + n % 2, 590, n);
        }
        x.setRank(1, 9);
        x.setRank(2, 9);
        x.addRead(3, 510);
        x.addRead(4, 511);
        x.addWrite(6, 102, 520);
        x.addWrite(6, 103, 1);
        x.addWrite(6, 101, 1);
        x.run(12);
        int asks = x.asksOf(5);
        Check.due("it has asked again", asks > 3, true);
        double mean = (double) asks / 12.0;
        Check.due("nobody else has", x.meanAsks(), mean);
        x.pull(5);
        Check.due("its asks stay", x.asksOf(5), asks);
        Check.due("and count in the mean", x.meanAsks(), mean);
        x.run(3);
        Check.due("it does not ask any more", x.asksOf(5), asks);
    }

    private static void tellingAPulledDevice() {
        BusHandler x = board();
        x.pull(DEVICE);
        Check.due("at first no address", x.setMessage(DEVICE, 3), -1);
        Check.due("the one before", x.setMessage(DEVICE, 1023), 3);
        Check.due("no line", x.setLine(DEVICE, 0), -1);
        Check.due("the line before", x.setLine(DEVICE, 3), 0);
        Check.due("no address", x.setMessage(DEVICE, 0), -1);
        Check.due("no line is raised by it", x.raisedOn(0) + x.raisedOn(3), 0);
        Check.due("nor does the bell ring", x.rung(), 0);
    }

    // ---- moving

    private static void movingADevice() {
        BusHandler x = worked();
        Check.due("the least address before", x.moveWindow(DEVICE, 702), 101);
        figuresAre("moved", x);
        Check.due("its ring index", x.ringIndex(DEVICE), 2);
        Check.due("its data", x.load(DEVICE, 33), 3);
        for (int index = 0; index < 4; index++) {
            x.addRead(PROCESSOR, 702 + index);
        }
        x.run(20);
        Check.due("no doorbells", x.valueAt(PROCESSOR, 0), 0);
        Check.due("the base by its new address", x.valueAt(PROCESSOR, 1), 8);
        Check.due("the size", x.valueAt(PROCESSOR, 2), 4);
        Check.due("it is awake", x.valueAt(PROCESSOR, 3), 1);
        x.addWrite(PROCESSOR, 705, 0);
        x.run(2);
        Check.due("asleep", x.register(DEVICE, 3), 0);
    }

    private static void movingTheRouter() {
        BusHandler x = board();
        for (int vector = 0; vector < 8; vector++) {
            x.addWrite(PROCESSOR, 163 + vector, 0);
        }
        x.run(9);
        Check.due("the least address before", x.moveWindow(ROUTER, 701), 163);
        for (int vector = 0; vector < 8; vector++) {
            Check.due("what is pending stays", x.pending(vector), 1);
        }
        x.addWrite(PROCESSOR, 708, 0);
        x.addRead(PROCESSOR, 708);
        x.addRead(PROCESSOR, 701);
        x.run(8);
        Check.due("the last vector by its new address", x.valueAt(PROCESSOR, 0), 2);
        Check.due("the first one", x.valueAt(PROCESSOR, 1), 1);
    }

    // ---- registers, masks and turns

    /** A write to the base or to the size leaves the ring index, also one that is not less than the size. */
    private static void registersThatLeaveTheIndex() {
        BusHandler x = worked();
        setRegister(x, 1, 20);
        Check.due("behind a new base", x.ringIndex(DEVICE), 2);
        setRegister(x, 2, 1);
        Check.due("behind a lesser size", x.ringIndex(DEVICE), 2);
        putDescriptor(x, 28, 50, 1, 0);
        setRegister(x, 0, 1);
        x.run(30);
        Check.due("20 + 4 * 2 is where it goes on", x.cellAt(MEMORY, 50), 31);
        Check.due("it has ended", x.cellAt(MEMORY, 28), 0);
        Check.due("and goes round then", x.ringIndex(DEVICE), 0);
    }

    private static void masksAndRanksLeaveWhatIsPending() {
        BusHandler x = board();
        x.setMask(2, true);
        x.addWrite(PROCESSOR, 165, 0);
        x.addWrite(PROCESSOR, 165, 0);
        x.run(3);
        Check.due("pending for a vector that is masked", x.pending(2), 2);
        Check.due("the bell rings for it", x.rung(), 2);
        x.setMask(2, false);
        x.setVectorRank(2, 9);
        x.setMask(2, true);
        Check.due("masked again", x.pending(2), 2);
        x.addWait(PROCESSOR, 2);
        x.run(5);
        Check.due("it can't be taken", x.stepOf(PROCESSOR), 2);
        x.setMask(2, false);
        x.run(1);
        Check.due("now it can", x.takenAt(PROCESSOR, 0), 2);
        Check.due("one is left", x.pending(2), 1);
    }

    /** "The first one behind the one granted last on this bus": an agent that is added, or a rank, changes nothing. */
    private static void agentsThatAreAddedLeaveTheTurn() {
        BusHandler x = new BusHandler();
        for (int k = 0; k < 3; k++) {
            x.addProcessor(0);
            for (int n = 0; n < 8; n++) {
                x.addWrite(k, 900 + k, n);
            }
        }
        x.run(3);
        Check.due("0 and 1 have been granted", x.stepOf(0) + x.stepOf(1) + x.stepOf(2), 9);
        Check.due("2 has not", x.listLength(2, false), 3);
        x.addProcessor(0);
        x.addDevice(0, 101);
        x.setRank(0, 9);
        x.addBridge(0, 500, 100);
        x.run(1);
        Check.due("now it is", x.listLength(2, false), 3);
        Check.due("the others have one more", x.listLength(0, false) + x.listLength(1, false), 6);
        x.addWrite(3, 900, 0);
        x.run(1);
        Check.due("then the lowest one", x.listLength(0, false), 3);
    }
}
