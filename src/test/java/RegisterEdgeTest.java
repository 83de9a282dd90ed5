/** "Devices", "Pulling" and the promises 23 to 27 and 34: registers, sleep, full lists, what a pulled one does not. */
public final class RegisterEdgeTest {
    private static final int MEMORY = 0;
    private static final int PROCESSOR = 1;
    private static final int DEVICE = 2;

    public static void main(String[] args) {
        fortyValues();
        refusedValueIsNotKept();
        messageAddresses();
        lines();
        registersAtFirst();
        doorbellsUpToNinetyNine();
        bases();
        ringSizes();
        sizesThatChangeNothing();
        awakeOrAsleep();
        writesToASleepingDevice();
        readsOfASleepingDevice();
        asleepInEachState();
        sleepBetweenTwoReads();
        asleepItDoesNotAct();
        messagesOfASleepingDevice();
        readsThatWaitForTheList();
        firstReadWaitsForTheList();
        waitingForTheListIsNotLate();
        writesThatWaitForTheList();
        interruptsThatNeedNoRoom();
        answersWithoutRoom();
        pulledWithMessages();
        pulledInEachState();
        pulledWhileItWaits();
        pulledLine();
        callsOfAPulledDevice();
        pendingOfAPulledDevice();
        Check.end();
    }

    /** A memory at 0, a processor, a device at 100, a router at 160. */
    private static BusHandler board() {
        BusHandler x = new BusHandler();
        x.addMemory(0, 0, 64);
        x.addProcessor(0);
        x.addDevice(0, 100);
        x.addRouter(0, 160);
        return x;
    }

    private static void putDescriptor(BusHandler x, int at, int address, int length, int flags) {
        x.put(MEMORY, at, 1);
        x.put(MEMORY, at + 1, address);
        x.put(MEMORY, at + 2, length);
        x.put(MEMORY, at + 3, flags);
    }

    private static void start(BusHandler x, int ringSize, int doorbells) {
        x.addWrite(PROCESSOR, 101, 8);
        x.addWrite(PROCESSOR, 102, ringSize);
        x.addWrite(PROCESSOR, 100, doorbells);
    }

    private static void write(BusHandler x, int index, int value) {
        x.addWrite(PROCESSOR, 100 + index, value);
        x.run(2);
    }

    // ---- data, and how it interrupts

    /** "If it has 40 values." */
    private static void fortyValues() {
        BusHandler x = board();
        putDescriptor(x, 8, 40, 1, 0);
        Check.thrown("-1", Check.ARGUMENT, () -> x.load(DEVICE, -1));
        Check.thrown("10000", Check.ARGUMENT, () -> x.load(DEVICE, 10000));
        for (int n = 0; n < 40; n++) {
            Check.due("how many it has", x.load(DEVICE, n == 0 ? 9999 : n == 39 ? 0 : n), n + 1);
        }
        Check.thrown("a 41st value", Check.STATE, () -> x.load(DEVICE, 0));
        start(x, 1, 1);
        x.run(11);
        Check.thrown("not before one is moved", Check.STATE, () -> x.load(DEVICE, 0));
        x.run(1);
        Check.due("with the act that moves one", x.load(DEVICE, 7), 40);
        Check.thrown("full again", Check.STATE, () -> x.load(DEVICE, 0));
        x.run(8);
        Check.due("the first one was moved", x.cellAt(MEMORY, 40), 9999);
    }

    /** Behind a refused call the 40 values are those that were given, in their order. */
    private static void refusedValueIsNotKept() {
        BusHandler x = board();
        for (int k = 0; k < 5; k++) {
            putDescriptor(x, 8 + 4 * k, 40 + 8 * (k % 2), 8, 0);
        }
        for (int n = 0; n < 40; n++) {
            x.load(DEVICE, 100 + n);
        }
        Check.thrown("a 41st value", Check.STATE, () -> x.load(DEVICE, 9999));
        start(x, 5, 5);
        int[] blocks = {2, 4, 5};
        for (int count : blocks) {
            for (int n = 0; n < 80 && x.blocksOf(DEVICE) < count; n++) {
                x.run(1);
            }
            x.run(3);
            for (int n = 8 * (count - 1); n < 8 * count; n++) {
                Check.due("the value", x.cellAt(MEMORY, 40 + 8 * ((count - 1) % 2) + n % 8), 100 + n);
            }
        }
        Check.due("all are gone", x.load(DEVICE, 1), 1);
    }

    /** "The address, 0 to 1023"; "or -1 if it did not interrupt by a write". */
    private static void messageAddresses() {
        BusHandler x = board();
        Check.thrown("-1", Check.ARGUMENT, () -> x.setMessage(DEVICE, -1));
        Check.thrown("1024", Check.ARGUMENT, () -> x.setMessage(DEVICE, 1024));
        Check.due("not by a write", x.setMessage(DEVICE, 0), -1);
        Check.due("by one to 0", x.setMessage(DEVICE, 1023), 0);
        Check.due("by one to 1023", x.setMessage(DEVICE, 1023), 1023);
        Check.thrown("1024", Check.ARGUMENT, () -> x.setMessage(DEVICE, 1024));
        Check.due("still by one to 1023", x.setMessage(DEVICE, 5), 1023);
        x.setLine(DEVICE, -1);
        Check.due("not at all", x.setMessage(DEVICE, 5), -1);
    }

    /** "The line, 0 to 3, or -1 for none." */
    private static void lines() {
        BusHandler x = board();
        Check.thrown("-2", Check.ARGUMENT, () -> x.setLine(DEVICE, -2));
        Check.thrown("4", Check.ARGUMENT, () -> x.setLine(DEVICE, 4));
        int before = -1;
        for (int line = 0; line < 4; line++) {
            Check.due("the line before", x.setLine(DEVICE, line), before);
            before = line;
        }
        Check.thrown("4", Check.ARGUMENT, () -> x.setLine(DEVICE, 4));
        Check.due("3 stays", x.setLine(DEVICE, -1), 3);
        Check.due("none", x.setLine(DEVICE, 0), -1);
        x.setMessage(DEVICE, 5);
        Check.due("by a write is by no line", x.setLine(DEVICE, 0), -1);
    }

    // ---- registers

    /** "All of them are 0 at first. The register 3 is 1." */
    private static void registersAtFirst() {
        BusHandler x = board();
        for (int index = 0; index < 4; index++) {
            Check.due("the register " + index, x.register(DEVICE, index), index == 3 ? 1 : 0);
        }
        Check.thrown("no register -1", Check.OUT, () -> x.register(DEVICE, -1));
        Check.thrown("no register 4", Check.OUT, () -> x.register(DEVICE, 4));
    }

    /** "Its number of doorbells, which a write increases by the value, up to 99." */
    private static void doorbellsUpToNinetyNine() {
        int[][] sums = {{0, 0}, {1, 1}, {98, 98}, {99, 99}, {100, 99}, {9999, 99}};
        for (int[] sum : sums) {
            BusHandler x = board();
            write(x, 0, sum[0]);
            Check.due("from 0", x.register(DEVICE, 0), sum[1]);
        }
        int[][] more = {{0, 98}, {1, 99}, {2, 99}, {9999, 99}};
        for (int[] sum : more) {
            BusHandler x = board();
            write(x, 0, 98);
            write(x, 0, sum[0]);
            Check.due("from 98", x.register(DEVICE, 0), sum[1]);
            write(x, 0, 1);
            Check.due("from 98 or 99", x.register(DEVICE, 0), 99);
        }
    }

    private static void bases() {
        BusHandler x = board();
        for (int base : new int[] {0, 1, 1023, 1024, 9999, 0}) {
            write(x, 1, base);
            Check.due("any value is a base", x.register(DEVICE, 1), base);
        }
        Check.due("it is told by a read, too", x.register(DEVICE, 2), 0);
    }

    /** "The size of its ring, from 1 to 8." */
    private static void ringSizes() {
        for (int size = 1; size <= 8; size++) {
            BusHandler x = board();
            write(x, 2, size);
            Check.due("a size", x.register(DEVICE, 2), size);
        }
    }

    /** "Where other values change nothing." */
    private static void sizesThatChangeNothing() {
        for (int size : new int[] {0, 1, 8}) {
            for (int other : new int[] {0, 9, 10, 9999}) {
                BusHandler x = board();
                write(x, 2, size);
                write(x, 2, other);
                Check.due("from " + size + " by " + other, x.register(DEVICE, 2), size);
                Check.due("it is not lost", x.lost(), 0);
            }
        }
    }

    /** "A write of 0 to it lets the device sleep, one of another value wakes it." */
    private static void awakeOrAsleep() {
        for (int value : new int[] {1, 2, 9999}) {
            BusHandler x = board();
            write(x, 0, 5);
            write(x, 3, value);
            Check.due("awake as before", x.register(DEVICE, 3), 1);
            Check.due("with its doorbells", x.register(DEVICE, 0), 5);
            write(x, 3, 0);
            Check.due("asleep", x.register(DEVICE, 3), 0);
            write(x, 3, 0);
            Check.due("still asleep", x.register(DEVICE, 3), 0);
            write(x, 3, value);
            Check.due("awake", x.register(DEVICE, 3), 1);
            Check.due("without doorbells", x.register(DEVICE, 0), 0);
            Check.due("writes to the register 3 are never lost", x.lost(), 0);
        }
    }

    /** "To a device that is asleep, a write to another register than 3 is lost." */
    private static void writesToASleepingDevice() {
        BusHandler x = board();
        write(x, 0, 5);
        write(x, 1, 6);
        write(x, 2, 7);
        write(x, 3, 0);
        for (int index = 0; index < 3; index++) {
            write(x, index, 3);
            Check.due("lost", x.lost(), index + 1);
            Check.due("not written", x.register(DEVICE, index), index == 0 ? 0 : 5 + index);
        }
        write(x, 3, 1);
        for (int index = 2; index >= 0; index--) {
            write(x, index, 3);
            Check.due("awake they are written", x.register(DEVICE, index), 3);
        }
        Check.due("three are lost", x.lost(), 3);
    }

    /** "And a read of another one is answered by the error 's'." */
    private static void readsOfASleepingDevice() {
        BusHandler x = board();
        write(x, 1, 6);
        write(x, 3, 0);
        for (int index = 0; index < 4; index++) {
            x.addRead(PROCESSOR, 100 + index);
            x.run(3);
            Check.due("done", x.readsOf(PROCESSOR), index + 1);
            Check.due("asleep", x.errorAt(PROCESSOR, index), index < 3 ? 's' : '-');
            Check.due("no value", x.valueAt(PROCESSOR, index), index < 3 ? -1 : 0);
        }
        write(x, 3, 1);
        x.addRead(PROCESSOR, 101);
        x.run(3);
        Check.due("awake it is read", x.valueAt(PROCESSOR, 4), 6);
        x.addRead(PROCESSOR, 103);
        x.run(3);
        Check.due("its own value", x.valueAt(PROCESSOR, 5), 1);
    }

    // ---- sleep

    /** The first descriptor has ended by raising the line 2; the second one, outward, is begun in the cycle 17. */
    private static BusHandler secondDescriptor() {
        BusHandler x = board();
        putDescriptor(x, 8, 40, 1, 1);
        putDescriptor(x, 12, 50, 2, 0);
        x.load(DEVICE, 31);
        x.load(DEVICE, 32);
        x.load(DEVICE, 33);
        x.setLine(DEVICE, 2);
        x.setArbiter(0, true);
        x.setRank(PROCESSOR, 9);
        start(x, 2, 3);
        return x;
    }

    /** "Has no doorbells, has the ring index 0, is idle, raises no line, and waits for no answer." */
    private static void asleepInEachState() {
        StringBuilder states = new StringBuilder();
        for (int cycles = 15; cycles < 32; cycles++) {
            BusHandler x = secondDescriptor();
            x.run(cycles);
            x.addWrite(PROCESSOR, 103, 0);
            x.addWrite(PROCESSOR, 103, 1);
            x.run(1);
            states.append(x.stateOf(DEVICE));
            int errors = x.errorsOf(DEVICE);
            int blocks = x.blocksOf(DEVICE);
            int data = x.load(DEVICE, 77);
            x.run(1);
            Check.due("its data stay", x.load(DEVICE, 78), data + 1);
            Check.due("asleep", x.register(DEVICE, 3), 0);
            Check.due("no doorbells", x.register(DEVICE, 0), 0);
            Check.due("the ring index", x.ringIndex(DEVICE), 0);
            Check.due("idle", x.stateOf(DEVICE), 'i');
            Check.due("no line", x.raisedOn(2), 0);
            Check.due("the base stays", x.register(DEVICE, 1), 8);
            Check.due("the size stays", x.register(DEVICE, 2), 2);
            x.run(1);
            Check.due("awake", x.register(DEVICE, 3), 1);
            x.run(80);
            Check.due("it has nothing to do", x.stateOf(DEVICE), 'i');
            Check.due("no error", x.errorsOf(DEVICE), errors);
            Check.due("no block has ended", x.blocksOf(DEVICE), blocks);
            Check.due("what was received stays", x.received(DEVICE), 1);
            Check.due("the line is not raised again", x.raisedOn(2), 0);
        }
        Check.due("in each state", states.toString(), "iooaallffmwrniooi");
    }

    /** Asleep and awake again between a read and its answer; the answer is not taken for the one to the new read. */
    private static void sleepBetweenTwoReads() {
        BusHandler x = board();
        putDescriptor(x, 8, 40, 1, 1);
        x.put(MEMORY, 8, 5);
        start(x, 1, 1);
        x.addWrite(PROCESSOR, 103, 0);
        x.addWrite(PROCESSOR, 103, 1);
        x.addWrite(PROCESSOR, 100, 1);
        x.setArbiter(0, true);
        x.setRank(PROCESSOR, 9);
        x.run(4);
        Check.due("the first read", Check.lineOf(x, DEVICE), "2 device bus0 q8");
        x.run(3);
        Check.due("the second one behind it", Check.lineOf(x, DEVICE), "2 device bus0 q8 q8");
        x.run(1);
        x.put(MEMORY, 8, 1);
        Check.due("the first one is answered by 5", Check.lineOf(x, MEMORY), "0 memory bus0 a");
        x.run(1);
        Check.due("this is dropped", x.errorsOf(DEVICE), 0);
        Check.due("the second one is still waited for", x.stateOf(DEVICE), 'o');
        x.run(2);
        Check.due("and answered by 1", x.stateOf(DEVICE), 'a');
    }

    /** "A device that is awake acts": one that is asleep does not, whatever comes. */
    private static void asleepItDoesNotAct() {
        BusHandler x = board();
        putDescriptor(x, 8, 40, 1, 1);
        write(x, 1, 8);
        write(x, 2, 1);
        write(x, 3, 0);
        write(x, 0, 5);
        Check.due("nothing goes", x.run(50), 0);
        Check.due("idle", x.stateOf(DEVICE), 'i');
        write(x, 3, 1);
        Check.due("the lost doorbells do not count", x.run(50), 0);
        write(x, 0, 1);
        Check.due("a new one does", x.stateOf(DEVICE), 'o');
    }

    /** What is in its list when it falls asleep goes all the same. */
    private static void messagesOfASleepingDevice() {
        BusHandler x = board();
        putDescriptor(x, 8, 40, 8, 0);
        for (int n = 0; n < 8; n++) {
            x.load(DEVICE, 31 + n);
        }
        start(x, 1, 1);
        x.run(11);
        x.setArbiter(0, true);
        x.setRank(PROCESSOR, 9);
        for (int n = 0; n < 4; n++) {
            x.addWrite(PROCESSOR, 900, n);
        }
        x.addWrite(PROCESSOR, 103, 0);
        x.run(6);
        Check.due("asleep", x.register(DEVICE, 3), 0);
        Check.due("four writes are in its list", x.listLength(DEVICE, false), 4);
        x.run(10);
        Check.due("they go", x.listLength(DEVICE, false), 0);
        Check.due("the fourth one", x.cellAt(MEMORY, 43), 34);
        Check.due("there is no fifth one", x.cellAt(MEMORY, 44), 0);
        Check.due("the length is not written", x.cellAt(MEMORY, 10), 8);
    }

    // ---- full lists

    /**
     * The device has read a part of its descriptor, or a value; the answer stays in the list of the memory until some
     * answers to the readers 4 to 8 are in the list of the device, which 9 to 13 hold there for 80 cycles.
     */
    private static BusHandler fullList(int part, int answers) {
        BusHandler x = board();
        putDescriptor(x, 8, 40, 3, 1);
        start(x, 1, 1);
        for (int k = 4; k < 14; k++) {
            x.addProcessor(0);
            x.setRank(k, k < 9 ? 9 : 5);
        }
        x.run(4 + 2 * part);
        for (int k = 4; k < 4 + answers; k++) {
            x.addRead(k, 102);
        }
        x.setArbiter(0, true);
        x.run(1);
        for (int n = 0; n < 80; n++) {
            x.addWrite(9 + n % 5, 900, n);
        }
        x.run(answers);
        x.setRank(MEMORY, 7);
        x.run(1);
        return x;
    }

    /** "When it must bring a message into its list, it waits as long as 4 messages are in it": each read. */
    private static void readsThatWaitForTheList() {
        String states = "alfmmm";
        for (int part = 0; part < 6; part++) {
            for (int answers = 3; answers <= 5; answers++) {
                BusHandler x = fullList(part, answers);
                Check.due("what it does next", x.stateOf(DEVICE), states.charAt(part));
                Check.due("3 leave room, 4 do not", x.listLength(DEVICE, false), answers == 3 ? 4 : answers);
                x.run(5);
                Check.due("nor later", x.listLength(DEVICE, false), answers == 3 ? 4 : answers);
                char last = x.messageAt(DEVICE, false, x.listLength(DEVICE, false) - 1);
                Check.due("the last message", last, answers == 3 ? 'q' : 'a');
                x.setRank(DEVICE, 9);
                x.run(answers == 5 ? 2 : 1);
                last = x.messageAt(DEVICE, false, x.listLength(DEVICE, false) - 1);
                Check.due("with 3 messages left it reads", last, 'q');
            }
        }
    }

    private static void firstReadWaitsForTheList() {
        for (int answers = 3; answers <= 5; answers++) {
            BusHandler x = board();
            for (int k = 4; k < 14; k++) {
                x.addProcessor(0);
                x.setRank(k, k < 9 ? 9 : 5);
            }
            x.setRank(PROCESSOR, 8);
            x.setArbiter(0, true);
            for (int k = 4; k < 4 + answers; k++) {
                x.addRead(k, 102);
            }
            for (int n = 0; n < 80; n++) {
                x.addWrite(9 + n % 5, 900, n);
            }
            x.run(8);
            start(x, 1, 1);
            x.run(8);
            Check.due("it goes on with 'o'", x.stateOf(DEVICE), 'o');
            Check.due("3 leave room, 4 do not", x.listLength(DEVICE, false), answers == 3 ? 4 : answers);
        }
    }

    /** Waiting for the list is no waiting for an answer: no 't' comes of it. */
    private static void waitingForTheListIsNotLate() {
        BusHandler x = fullList(0, 4);
        x.run(68);
        Check.due("it still waits for the list", x.stateOf(DEVICE), 'a');
        Check.due("no error", x.errorsOf(DEVICE), 0);
        Check.due("4 answers", x.listLength(DEVICE, false), 4);
        x.run(40);
        Check.due("then it goes on", x.blocksOf(DEVICE), 1);
        Check.due("without an error", x.errorsOf(DEVICE), 0);
    }

    /** A device that moves some values outward; another one keeps the bus from the cycle 13 to the cycle 28. */
    private static BusHandler heldOutward(int length, int flags) {
        BusHandler x = board();
        putDescriptor(x, 8, 40, length, flags);
        for (int n = 0; n < length; n++) {
            x.load(DEVICE, 31 + n);
        }
        start(x, 1, 1);
        x.addProcessor(0);
        x.setArbiter(0, true);
        x.setRank(4, 9);
        x.run(11);
        for (int n = 0; n < 16; n++) {
            x.addWrite(4, 900, n);
        }
        return x;
    }

    /** Each write: that of a value, of the length, of the owner, and of the interrupt. */
    private static void writesThatWaitForTheList() {
        String states = "nrwm";
        for (int length = 2; length <= 5; length++) {
            BusHandler x = heldOutward(length, 0);
            x.setMessage(DEVICE, 161);
            x.run(15);
            Check.due("what it does next", x.stateOf(DEVICE), states.charAt(length - 2));
            Check.due("4 messages", x.listLength(DEVICE, false), 4);
            Check.due("it has not ended", x.blocksOf(DEVICE), 0);
            Check.due("its data", x.load(DEVICE, 0), length == 5 ? 2 : 1);
            x.run(3);
            Check.due("as one goes, the next one comes", x.listLength(DEVICE, false), 4);
            x.run(12);
            Check.due("all is done", x.blocksOf(DEVICE), 1);
            Check.due("the interrupt, too", x.pending(1), 1);
        }
    }

    /** A line, or none, or more to come, needs no room in the list. */
    private static void interruptsThatNeedNoRoom() {
        for (int way = 0; way < 3; way++) {
            BusHandler x = heldOutward(2, way == 2 ? 2 : 0);
            if (way == 0) {
                x.setLine(DEVICE, 3);
            } else if (way == 2) {
                x.setMessage(DEVICE, 161);
            }
            x.run(5);
            Check.due("4 messages", x.listLength(DEVICE, false), 4);
            Check.due("it has ended", x.blocksOf(DEVICE), 1);
            Check.due("the line", x.raisedOn(3), way == 0 ? 1 : 0);
            Check.due("idle", x.stateOf(DEVICE), 'i');
        }
        BusHandler y = heldOutward(2, 0);
        y.setMessage(DEVICE, 161);
        y.run(5);
        Check.due("a write needs room", y.blocksOf(DEVICE), 0);
    }

    /** "The answers come into the list of the device, whether there is room or not." */
    private static void answersWithoutRoom() {
        BusHandler x = heldOutward(5, 0);
        for (int k = 5; k < 8; k++) {
            x.addProcessor(0);
            x.setRank(k, 9);
        }
        x.run(6);
        Check.due("4 writes", x.listLength(DEVICE, false), 4);
        for (int k = 5; k < 8; k++) {
            x.addRead(k, 102);
        }
        x.setRank(4, 8);
        x.run(4);
        Check.due("3 answers behind them", Check.lineOf(x, DEVICE), "2 device bus0 w40 w41 w42 w43 a a a");
        x.run(40);
        Check.due("all are answered", x.readsOf(5) + x.readsOf(6) + x.readsOf(7), 3);
    }

    // ---- pulling

    /** "The messages in its own list are lost"; "how many messages are lost with it". */
    private static void pulledWithMessages() {
        for (int messages = 0; messages <= 4; messages++) {
            BusHandler x = heldOutward(6, 0);
            if (messages > 0) {
                x.run(messages);
            }
            Check.due("messages", x.listLength(DEVICE, false), messages);
            Check.due("lost with it", x.pull(DEVICE), messages);
            Check.due("none is left", x.listLength(DEVICE, false), 0);
            x.run(40);
            Check.due("none of them was written", x.cellAt(MEMORY, 40), 0);
            Check.due("nor counts as a lost write", x.lost(), 16);
        }
        BusHandler y = heldOutward(5, 0);
        y.addProcessor(0);
        y.setRank(5, 9);
        y.run(6);
        y.addRead(5, 102);
        y.setRank(4, 8);
        y.run(2);
        Check.due("four writes and an answer", y.pull(DEVICE), 5);
        y.run(70);
        Check.due("the reader waits in vain", y.errorAt(5, 0), 't');
    }

    /** "And it does not act any more; its registers and figures stay." */
    private static void pulledInEachState() {
        StringBuilder states = new StringBuilder();
        for (int cycles = 16; cycles < 32; cycles++) {
            BusHandler x = secondDescriptor();
            x.run(cycles);
            states.append(x.stateOf(DEVICE));
            int[] registers = {x.register(DEVICE, 0), x.register(DEVICE, 1), x.register(DEVICE, 2),
                x.register(DEVICE, 3)};
            int blocks = x.blocksOf(DEVICE);
            int index = x.ringIndex(DEVICE);
            int lost = x.pull(DEVICE);
            Check.due("one message at most", lost == 0 || lost == 1, true);
            Check.due("gone", x.stateOf(DEVICE), 'g');
            x.run(80);
            Check.due("it brings no message", x.listLength(DEVICE, false), 0);
            for (int i = 0; i < 4; i++) {
                Check.due("the register " + i, x.register(DEVICE, i), registers[i]);
            }
            Check.due("the ring index", x.ringIndex(DEVICE), index);
            Check.due("blocks", x.blocksOf(DEVICE), blocks);
            Check.due("no error comes any more", x.errorsOf(DEVICE), 0);
            Check.due("received", x.received(DEVICE), 1);
            Check.due("gone for good", x.stateOf(DEVICE), 'g');
        }
        Check.due("in each state", states.toString(), "iooaallffmwrnioo");
        BusHandler y = heldOutward(8, 0);
        y.run(3);
        y.pull(DEVICE);
        y.run(40);
        Check.due("no value is written any more", y.sentOn(0), 27);
    }

    /** It does not count times of waiting either. */
    private static void pulledWhileItWaits() {
        BusHandler x = board();
        putDescriptor(x, 8, 40, 1, 1);
        start(x, 1, 1);
        x.run(5);
        Check.due("its read has gone", x.pull(DEVICE), 0);
        x.run(100);
        Check.due("no error", x.lastError(DEVICE), '-');
        Check.due("no doorbell less", x.register(DEVICE, 0), 1);
    }

    /** "It raises no line." */
    private static void pulledLine() {
        BusHandler x = secondDescriptor();
        x.setMask(2, true);
        x.addWait(PROCESSOR, 2);
        x.run(18);
        Check.due("raised", x.raisedOn(2), 1);
        x.pull(DEVICE);
        Check.due("not any more", x.raisedOn(2), 0);
        x.setMask(2, false);
        x.run(5);
        Check.due("nor can it be taken", x.stepOf(PROCESSOR), 3);
        Check.due("the bell rang once", x.rung(), 1);
    }

    private static void callsOfAPulledDevice() {
        BusHandler x = board();
        x.pull(DEVICE);
        Check.thrown("pull again", Check.STATE, () -> x.pull(DEVICE));
        Check.thrown("load", Check.STATE, () -> x.load(DEVICE, 1));
        Check.thrown("moveWindow", Check.ARGUMENT, () -> x.moveWindow(DEVICE, 200));
        Check.due("setRank", x.setRank(DEVICE, 3), 0);
        Check.due("setMessage", x.setMessage(DEVICE, 3), -1);
        Check.due("setLine", x.setLine(DEVICE, 3), -1);
        Check.due("setLine again", x.setLine(DEVICE, -1), 3);
        Check.due("kindOf", x.kindOf(DEVICE), 'd');
        Check.due("asksOf", x.asksOf(DEVICE), 0);
        Check.due("writeAgent", Check.lineOf(x, DEVICE), "2 device bus0");
        write(x, 3, 0);
        Check.due("a write to its window is lost", x.lost(), 1);
        Check.due("its register stays", x.register(DEVICE, 3), 1);
        x.addRead(PROCESSOR, 103);
        x.run(2);
        Check.due("a read of it is one of nobody", x.errorAt(PROCESSOR, 0), 'n');
    }

    /** "What is pending of it in the router stays." */
    private static void pendingOfAPulledDevice() {
        BusHandler x = board();
        putDescriptor(x, 8, 40, 1, 1);
        x.setMessage(DEVICE, 167);
        start(x, 1, 1);
        x.run(18);
        Check.due("it has just come", x.pending(7), 1);
        x.pull(DEVICE);
        x.run(10);
        Check.due("it stays", x.pending(7), 1);
        x.addWait(PROCESSOR, 7);
        x.run(1);
        Check.due("and can be taken", x.takenAt(PROCESSOR, 0), 7);
        Check.due("not early", x.early(), 0);
    }
}
