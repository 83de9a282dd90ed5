/** Promises 23 to 34: devices, their registers, their rings of descriptors, and what pulls them out. */
public final class DeviceTest {
    private static final int MEMORY = 0;
    private static final int PROCESSOR = 1;
    private static final int DEVICE = 2;

    public static void main(String[] args) {
        load();
        setMessage();
        setLine();
        wrongAgents();
        outwardBlock();
        inwardBlock();
        blockWithoutData();
        blockWithTooLittleData();
        moreToCome();
        lengthThatDoesNotFit();
        lengthsOfOneAndEight();
        foreignDescriptor();
        errorsInADescriptor();
        errorInABlock();
        lateAnswerOfADevice();
        ringGoesRound();
        ringThatShrinks();
        ringThatMoves();
        fortyValues();
        registersByWrites();
        registersByReads();
        asleep();
        sleepInTheMidst();
        sleepWithAReadInTheList();
        toldLast();
        fullListOfADevice();
        answersNeedNoRoom();
        pull();
        pullWithMessages();
        Check.end();
    }

    /** A memory at 0, a processor, a device at 100, a router at 160; the ring starts at 8. */
    private static BusHandler board() {
        BusHandler x = new BusHandler();
        x.addMemory(0, 0, 64);
        x.addProcessor(0);
        x.addDevice(0, 100);
        x.addRouter(0, 160);
        return x;
    }

    private static void putDescriptor(BusHandler x, int at, int address, int length, int flags) {
        x.put(MEMORY, at, 1);
        x.put(MEMORY, at + 1, address);
        x.put(MEMORY, at + 2, length);
        x.put(MEMORY, at + 3, flags);
    }

    private static void start(BusHandler x, int ringSize, int doorbells) {
        x.addWrite(PROCESSOR, 101, 8);
        x.addWrite(PROCESSOR, 102, ringSize);
        x.addWrite(PROCESSOR, 100, doorbells);
    }

    private static BusHandler startedBoard(int address, int length, int flags) {
        BusHandler x = board();
        putDescriptor(x, 8, address, length, flags);
        start(x, 1, 1);
        return x;
    }

    private static void giveData(BusHandler x, int count) {
        for (int n = 0; n < count; n++) {
            x.load(DEVICE, 31 + n);
        }
    }

    /** What the device does behind each of some cycles. */
    private static String statesOf(BusHandler x, int cycles) {
        StringBuilder states = new StringBuilder();
        for (int n = 0; n < cycles; n++) {
            x.run(1);
            states.append(x.stateOf(DEVICE));
        }
        return states.toString();
    }

    private static void load() {
        BusHandler x = board();
        Check.thrown("load(0, 1)", Check.OUT, () -> x.load(0, 1));
        Check.thrown("load(4, -1)", Check.OUT, () -> x.load(4, -1));
        Check.thrown("value -1", Check.ARGUMENT, () -> x.load(DEVICE, -1));
        Check.thrown("value 10000", Check.ARGUMENT, () -> x.load(DEVICE, 10000));
        for (int n = 1; n <= 40; n++) {
            Check.due("values", x.load(DEVICE, n == 1 ? 9999 : 0), n);
        }
        Check.thrown("41st value", Check.STATE, () -> x.load(DEVICE, 1));
        Check.thrown("41st value, too great", Check.ARGUMENT, () -> x.load(DEVICE, 10000));
        putDescriptor(x, 8, 40, 1, 0);
        start(x, 1, 1);
        x.run(20);
        Check.due("the first value has gone", x.cellAt(MEMORY, 40), 9999);
        Check.due("there is a place again", x.load(DEVICE, 1), 40);
        x.pull(DEVICE);
        Check.thrown("not there", Check.STATE, () -> x.load(DEVICE, 1));
        Check.thrown("not there, bad value", Check.ARGUMENT, () -> x.load(DEVICE, -1));
    }

    private static void setMessage() {
        BusHandler x = board();
        Check.thrown("setMessage(1, 0)", Check.OUT, () -> x.setMessage(1, 0));
        Check.thrown("setMessage(9, -1)", Check.OUT, () -> x.setMessage(9, -1));
        Check.thrown("address -1", Check.ARGUMENT, () -> x.setMessage(DEVICE, -1));
        Check.thrown("address 1024", Check.ARGUMENT, () -> x.setMessage(DEVICE, 1024));
        Check.due("not by a write at first", x.setMessage(DEVICE, 0), -1);
        Check.due("by a write to 0 before", x.setMessage(DEVICE, 1023), 0);
        Check.due("not by a line before", x.setLine(DEVICE, 2), -1);
        Check.due("by a line before", x.setMessage(DEVICE, 5), -1);
        Check.due("by a write again", x.setMessage(DEVICE, 6), 5);
    }

    private static void setLine() {
        BusHandler x = board();
        Check.thrown("setLine(1, 0)", Check.OUT, () -> x.setLine(1, 0));
        Check.thrown("setLine(-1, 9)", Check.OUT, () -> x.setLine(-1, 9));
        Check.thrown("line -2", Check.ARGUMENT, () -> x.setLine(DEVICE, -2));
        Check.thrown("line 4", Check.ARGUMENT, () -> x.setLine(DEVICE, 4));
        Check.due("not by a line at first", x.setLine(DEVICE, 3), -1);
        Check.due("by the line 3 before", x.setLine(DEVICE, 0), 3);
        Check.due("by the line 0 before", x.setLine(DEVICE, -1), 0);
        Check.due("not at all before", x.setLine(DEVICE, 1), -1);
        x.setLine(DEVICE, -1);
        Check.due("not at all is no write either", x.setMessage(DEVICE, 7), -1);
    }

    private static void wrongAgents() {
        BusHandler x = board();
        int[] agents = {-1, 0, 1, 3, 4, Integer.MAX_VALUE, Integer.MIN_VALUE};
        for (int agent : agents) {
            Check.thrown("stateOf", Check.OUT, () -> x.stateOf(agent));
            Check.thrown("register", Check.OUT, () -> x.register(agent, 0));
            Check.thrown("ringIndex", Check.OUT, () -> x.ringIndex(agent));
            Check.thrown("received", Check.OUT, () -> x.received(agent));
            Check.thrown("receivedAt", Check.OUT, () -> x.receivedAt(agent, 0));
            Check.thrown("blocksOf", Check.OUT, () -> x.blocksOf(agent));
            Check.thrown("errorsOf", Check.OUT, () -> x.errorsOf(agent));
            Check.thrown("lastError", Check.OUT, () -> x.lastError(agent));
            Check.thrown("pull", Check.OUT, () -> x.pull(agent));
        }
        Check.thrown("register 4", Check.OUT, () -> x.register(DEVICE, 4));
        Check.thrown("register -1", Check.OUT, () -> x.register(DEVICE, -1));
        Check.thrown("nothing received", Check.MISSING, () -> x.receivedAt(DEVICE, 0));
        Check.due("no error", x.lastError(DEVICE), '-');
        Check.due("no errors", x.errorsOf(DEVICE), 0);
        Check.due("no blocks", x.blocksOf(DEVICE), 0);
        Check.due("nothing received", x.received(DEVICE), 0);
        Check.due("ring index", x.ringIndex(DEVICE), 0);
    }

    private static void outwardBlock() {
        BusHandler x = startedBoard(40, 2, 0);
        giveData(x, 3);
        x.setMessage(DEVICE, 162);
        Check.due("states", statesOf(x, 16), "iiiooaallffmwrni");
        Check.due("blocks", x.blocksOf(DEVICE), 1);
        Check.due("no doorbell", x.register(DEVICE, 0), 0);
        Check.due("the message is in the list", Check.lineOf(x, DEVICE), "2 device bus0 w162");
        x.run(1);
        Check.due("first value", x.cellAt(MEMORY, 40), 31);
        Check.due("second value", x.cellAt(MEMORY, 41), 32);
        Check.due("no third one", x.cellAt(MEMORY, 42), 0);
        Check.due("2 were moved", x.cellAt(MEMORY, 10), 2);
        Check.due("the owner", x.cellAt(MEMORY, 8), 0);
        Check.due("the flags stay", x.cellAt(MEMORY, 11), 0);
        Check.due("the interrupt", x.pending(2), 1);
        Check.due("one value is left", x.load(DEVICE, 1), 2);
        Check.due("no errors", x.errorsOf(DEVICE), 0);
        Check.due("it rests", statesOf(x, 3), "iii");
    }

    private static void inwardBlock() {
        BusHandler x = startedBoard(40, 2, 1);
        x.put(MEMORY, 40, 77);
        x.put(MEMORY, 41, 0);
        x.setLine(DEVICE, 3);
        giveData(x, 3);
        Check.due("states", statesOf(x, 18), "iiiooaallffmmmmrni");
        Check.due("received", x.received(DEVICE), 2);
        Check.due("first", x.receivedAt(DEVICE, 0), 77);
        Check.due("second", x.receivedAt(DEVICE, 1), 0);
        Check.thrown("index 2", Check.MISSING, () -> x.receivedAt(DEVICE, 2));
        Check.thrown("index -1", Check.MISSING, () -> x.receivedAt(DEVICE, -1));
        Check.due("the line", x.raisedOn(3), 1);
        Check.due("the data stay", x.load(DEVICE, 1), 4);
        Check.due("2 were moved", x.cellAt(MEMORY, 10), 2);
    }

    private static void blockWithoutData() {
        BusHandler x = startedBoard(40, 2, 0);
        Check.due("ended before anything is moved", statesOf(x, 14), "iiiooaallffrni");
        Check.due("nothing was moved", x.cellAt(MEMORY, 10), 0);
        Check.due("the owner", x.cellAt(MEMORY, 8), 0);
        Check.due("this is no error", x.errorsOf(DEVICE), 0);
        Check.due("it has ended", x.blocksOf(DEVICE), 1);
    }

    private static void blockWithTooLittleData() {
        BusHandler x = startedBoard(40, 5, 0);
        giveData(x, 2);
        Check.due("states", statesOf(x, 16), "iiiooaallffmwrni");
        Check.due("2 were moved", x.cellAt(MEMORY, 10), 2);
    }

    private static void moreToCome() {
        BusHandler x = startedBoard(40, 1, 2);
        giveData(x, 2);
        x.setLine(DEVICE, 0);
        Check.due("states", statesOf(x, 15), "iiiooaallffwrni");
        Check.due("no interrupt", x.raisedOn(0), 0);
        Check.due("it has ended", x.blocksOf(DEVICE), 1);
        BusHandler y = startedBoard(40, 1, 9997);
        y.setLine(DEVICE, 0);
        y.run(30);
        Check.due("bit 0 alone: inward, no more", y.received(DEVICE), 1);
        Check.due("interrupt", y.raisedOn(0), 1);
        BusHandler z = startedBoard(40, 1, 3);
        z.setLine(DEVICE, 0);
        z.run(30);
        Check.due("inward with more", z.received(DEVICE), 1);
        Check.due("no interrupt of it", z.raisedOn(0), 0);
        Check.due("but an end", z.blocksOf(DEVICE), 1);
    }

    private static void lengthThatDoesNotFit() {
        int[] lengths = {0, 9, 9999};
        for (int length : lengths) {
            BusHandler x = startedBoard(40, length, 3);
            giveData(x, 2);
            x.setLine(DEVICE, 1);
            Check.due("states", statesOf(x, 12), "iiiooaallrni");
            Check.due("errors", x.errorsOf(DEVICE), 1);
            Check.due("error", x.lastError(DEVICE), 'l');
            Check.due("its flags count as 0", x.raisedOn(1), 1);
            Check.due("it has ended", x.blocksOf(DEVICE), 1);
            x.run(2);
            Check.due("nothing was moved", x.cellAt(MEMORY, 10), 0);
            Check.due("the owner", x.cellAt(MEMORY, 8), 0);
            Check.due("the data stay", x.load(DEVICE, 1), 3);
        }
        BusHandler y = board();
        putDescriptor(y, 8, 40, 1, 3);
        putDescriptor(y, 12, 40, 9, 3);
        y.setLine(DEVICE, 1);
        start(y, 2, 2);
        y.run(16);
        Check.due("the first one had more to come", y.raisedOn(1), 0);
        Check.due("it has ended", y.blocksOf(DEVICE), 1);
        y.run(20);
        Check.due("the flags of the second one count as 0", y.raisedOn(1), 1);
    }

    private static void lengthsOfOneAndEight() {
        BusHandler x = startedBoard(40, 8, 0);
        giveData(x, 9);
        x.run(40);
        Check.due("8 were moved", x.cellAt(MEMORY, 10), 8);
        Check.due("the eighth", x.cellAt(MEMORY, 47), 38);
        Check.due("not the ninth", x.cellAt(MEMORY, 48), 0);
        BusHandler y = startedBoard(40, 1, 1);
        y.run(40);
        Check.due("1 was moved", y.cellAt(MEMORY, 10), 1);
        Check.due("no error", y.lastError(DEVICE), '-');
    }

    private static void foreignDescriptor() {
        int[] owners = {0, 2, 9999};
        for (int owner : owners) {
            BusHandler x = board();
            putDescriptor(x, 8, 40, 1, 0);
            x.put(MEMORY, 8, owner);
            start(x, 1, 3);
            Check.due("states", statesOf(x, 8), "iiiooiii");
            Check.due("error", x.lastError(DEVICE), 'o');
            Check.due("errors", x.errorsOf(DEVICE), 1);
            Check.due("no doorbells any more", x.register(DEVICE, 0), 0);
            Check.due("it has not ended", x.blocksOf(DEVICE), 0);
            Check.due("its owner stays", x.cellAt(MEMORY, 8), owner);
        }
    }

    private static void errorsInADescriptor() {
        String[] states = {"iiiooi", "iiiooaai", "iiiooaalli", "iiiooaallffi"};
        for (int part = 0; part < 4; part++) {
            BusHandler x = startedBoard(40, 1, 0);
            x.spoil(MEMORY, 8 + part);
            Check.due("states", statesOf(x, 6 + 2 * part), states[part]);
            Check.due("poison", x.lastError(DEVICE), 'p');
            Check.due("errors", x.errorsOf(DEVICE), 1);
            Check.due("no doorbells", x.register(DEVICE, 0), 0);
            Check.due("not ended", x.blocksOf(DEVICE), 0);
        }
        BusHandler y = board();
        y.addWrite(PROCESSOR, 101, 2000);
        y.addWrite(PROCESSOR, 102, 1);
        y.addWrite(PROCESSOR, 100, 1);
        Check.due("nobody answers at once", statesOf(y, 6), "iiioii");
        Check.due("nobody", y.lastError(DEVICE), 'n');
        BusHandler z = board();
        z.addDevice(0, 200);
        z.addWrite(PROCESSOR, 203, 0);
        z.addWrite(PROCESSOR, 101, 200);
        z.addWrite(PROCESSOR, 102, 1);
        z.addWrite(PROCESSOR, 100, 1);
        z.run(12);
        Check.due("asleep", z.lastError(DEVICE), 's');
        Check.due("an error of the one that reads", z.errorsOf(4), 0);
    }

    private static void errorInABlock() {
        BusHandler x = startedBoard(40, 3, 1);
        x.spoil(MEMORY, 41);
        x.put(MEMORY, 40, 5);
        x.setLine(DEVICE, 2);
        Check.due("states", statesOf(x, 18), "iiiooaallffmmmmrni");
        Check.due("poison", x.lastError(DEVICE), 'p');
        Check.due("one was received", x.received(DEVICE), 1);
        Check.due("it has ended", x.blocksOf(DEVICE), 1);
        Check.due("with its interrupt", x.raisedOn(2), 1);
        x.run(1);
        Check.due("one was moved", x.cellAt(MEMORY, 10), 1);
    }

    /** From the cycle 5 on, five processors keep the bus for 80 cycles. */
    private static void lateAnswerOfADevice() {
        BusHandler x = startedBoard(40, 1, 0);
        x.run(4);
        x.setArbiter(0, true);
        for (int k = 4; k < 9; k++) {
            x.addProcessor(0);
            x.setRank(k, 9);
            for (int n = 0; n < 16; n++) {
                x.addWrite(k, 900, n);
            }
        }
        x.setRank(DEVICE, 8);
        x.run(1);
        Check.due("the read went ahead of them", x.listLength(DEVICE, false), 0);
        Check.due("the memory has to wait", x.listLength(MEMORY, false), 1);
        x.run(62);
        Check.due("63 times are not enough", x.stateOf(DEVICE), 'o');
        x.run(1);
        Check.due("the 64th time", x.stateOf(DEVICE), 'i');
        Check.due("too late", x.lastError(DEVICE), 't');
        Check.due("no doorbells", x.register(DEVICE, 0), 0);
        x.run(30);
        Check.due("the answer is dropped", x.stateOf(DEVICE), 'i');
        Check.due("one error", x.errorsOf(DEVICE), 1);
        Check.due("it has gone", x.listLength(MEMORY, false), 0);
    }

    private static void ringGoesRound() {
        BusHandler x = board();
        putDescriptor(x, 8, 40, 1, 0);
        putDescriptor(x, 12, 44, 2, 0);
        giveData(x, 3);
        x.setLine(DEVICE, 1);
        start(x, 2, 2);
        x.run(14);
        Check.due("in the first one", x.ringIndex(DEVICE), 0);
        x.run(1);
        Check.due("at the second one", x.ringIndex(DEVICE), 1);
        Check.due("one doorbell is left", x.register(DEVICE, 0), 1);
        Check.due("idle", x.stateOf(DEVICE), 'i');
        Check.due("the next one begins in the next cycle", statesOf(x, 13), "ooaallffmwrni");
        Check.due("round", x.ringIndex(DEVICE), 0);
        Check.due("blocks", x.blocksOf(DEVICE), 2);
        Check.due("second one", x.cellAt(MEMORY, 45), 33);
        Check.due("raised again, but no new ring of the bell", x.rung(), 1);
        x.put(MEMORY, 8, 1);
        x.addWrite(PROCESSOR, 100, 2);
        x.run(40);
        Check.due("the second one is not its own any more", x.lastError(DEVICE), 'o');
        Check.due("the index stays there", x.ringIndex(DEVICE), 1);
        Check.due("blocks then", x.blocksOf(DEVICE), 3);
    }

    private static void ringThatShrinks() {
        BusHandler x = board();
        for (int k = 0; k < 4; k++) {
            putDescriptor(x, 8 + 4 * k, 40, 1, 1);
        }
        start(x, 4, 3);
        x.run(4 + 14 + 14);
        Check.due("at the third one", x.ringIndex(DEVICE), 2);
        x.addWrite(PROCESSOR, 102, 2);
        x.run(3);
        Check.due("the index stays", x.ringIndex(DEVICE), 2);
        x.run(20);
        Check.due("0, for it would not be less", x.ringIndex(DEVICE), 0);
        Check.due("three have ended", x.blocksOf(DEVICE), 3);
        Check.due("also the third one", x.cellAt(MEMORY, 16), 0);
    }

    /** The base is moved while the device reads, so that the rest comes from the new place. */
    private static void ringThatMoves() {
        BusHandler x = startedBoard(40, 1, 0);
        putDescriptor(x, 20, 50, 2, 0);
        x.put(MEMORY, 20, 7);
        giveData(x, 3);
        x.run(5);
        x.addWrite(PROCESSOR, 101, 20);
        x.run(20);
        Check.due("the address was read at the place before", x.cellAt(MEMORY, 40), 31);
        Check.due("the length at the new one", x.cellAt(MEMORY, 41), 32);
        Check.due("how many were moved goes to the new place", x.cellAt(MEMORY, 22), 2);
        Check.due("the owner, too", x.cellAt(MEMORY, 20), 0);
        Check.due("the one before stays", x.cellAt(MEMORY, 8), 1);
    }

    private static void fortyValues() {
        BusHandler x = board();
        start(x, 1, 1);
        int[] lengths = {8, 8, 8, 8, 4, 8, 8};
        for (int n = 0; n < lengths.length; n++) {
            putDescriptor(x, 8, 40, lengths[n], 1);
            x.put(MEMORY, 40, n);
            if (n > 0) {
                x.addWrite(PROCESSOR, 100, 1);
            }
            x.run(50);
            int moved = n == 5 ? 4 : n == 6 ? 0 : lengths[n];
            Check.due("moved", x.cellAt(MEMORY, 10), moved);
        }
        Check.due("40 in all", x.received(DEVICE), 40);
        Check.due("the first of the last block", x.receivedAt(DEVICE, 36), 5);
        Check.thrown("index 40", Check.MISSING, () -> x.receivedAt(DEVICE, 40));
        Check.due("all have ended", x.blocksOf(DEVICE), 7);
        Check.due("without errors", x.errorsOf(DEVICE), 0);
    }

    private static void registersByWrites() {
        BusHandler x = board();
        x.addWrite(PROCESSOR, 100, 60);
        x.addWrite(PROCESSOR, 100, 0);
        x.addWrite(PROCESSOR, 101, 9999);
        x.addWrite(PROCESSOR, 103, 7);
        x.run(5);
        Check.due("60 doorbells", x.register(DEVICE, 0), 60);
        Check.due("the base", x.register(DEVICE, 1), 9999);
        Check.due("awake is 1", x.register(DEVICE, 3), 1);
        Check.due("without a size it is idle", x.stateOf(DEVICE), 'i');
        x.addWrite(PROCESSOR, 100, 39);
        x.run(2);
        Check.due("99 doorbells", x.register(DEVICE, 0), 99);
        x.addWrite(PROCESSOR, 100, 9999);
        x.run(2);
        Check.due("no more than 99", x.register(DEVICE, 0), 99);
        x.addWrite(PROCESSOR, 102, 9);
        x.addWrite(PROCESSOR, 102, 0);
        x.run(3);
        Check.due("no such sizes", x.register(DEVICE, 2), 0);
        Check.due("still idle", x.stateOf(DEVICE), 'i');
        x.addWrite(PROCESSOR, 102, 8);
        x.run(2);
        Check.due("8 is a size", x.register(DEVICE, 2), 8);
        Check.due("now it goes on", x.stateOf(DEVICE), 'o');
        Check.due("nothing was lost", x.lost(), 0);
    }

    private static void registersByReads() {
        BusHandler x = board();
        x.addWrite(PROCESSOR, 100, 5);
        x.addWrite(PROCESSOR, 101, 17);
        for (int index = 0; index < 4; index++) {
            x.addRead(PROCESSOR, 100 + index);
        }
        x.run(3);
        Check.due("the answer comes in the cycle of the read or later", x.readsOf(PROCESSOR), 0);
        x.run(1);
        Check.due("in the list of the device", Check.lineOf(x, DEVICE), "2 device bus0 a");
        x.run(10);
        Check.due("doorbells", x.valueAt(PROCESSOR, 0), 5);
        Check.due("base", x.valueAt(PROCESSOR, 1), 17);
        Check.due("size", x.valueAt(PROCESSOR, 2), 0);
        Check.due("awake", x.valueAt(PROCESSOR, 3), 1);
    }

    private static void asleep() {
        BusHandler x = board();
        start(x, 3, 99);
        x.addWrite(PROCESSOR, 103, 0);
        x.addWrite(PROCESSOR, 100, 5);
        x.addWrite(PROCESSOR, 101, 6);
        x.addWrite(PROCESSOR, 102, 7);
        x.addRead(PROCESSOR, 101);
        x.addRead(PROCESSOR, 103);
        x.run(20);
        Check.due("no doorbells", x.register(DEVICE, 0), 0);
        Check.due("the base stays", x.register(DEVICE, 1), 8);
        Check.due("the size stays", x.register(DEVICE, 2), 3);
        Check.due("asleep", x.register(DEVICE, 3), 0);
        Check.due("three writes are lost", x.lost(), 3);
        Check.due("a read is answered", x.errorAt(PROCESSOR, 0), 's');
        Check.due("the register 3 tells", x.valueAt(PROCESSOR, 1), 0);
        Check.due("without an error", x.errorAt(PROCESSOR, 1), '-');
        x.addWrite(PROCESSOR, 103, 0);
        x.addWrite(PROCESSOR, 103, 9999);
        x.run(3);
        Check.due("awake", x.register(DEVICE, 3), 1);
        Check.due("nothing more was lost", x.lost(), 3);
        Check.due("idle", x.stateOf(DEVICE), 'i');
        x.addWrite(PROCESSOR, 100, 1);
        x.run(2);
        Check.due("it goes on", x.stateOf(DEVICE), 'o');
    }

    private static void sleepInTheMidst() {
        BusHandler x = board();
        putDescriptor(x, 8, 40, 1, 1);
        putDescriptor(x, 12, 40, 2, 1);
        x.setLine(DEVICE, 2);
        start(x, 2, 2);
        x.run(17);
        Check.due("the second one is at hand", x.ringIndex(DEVICE), 1);
        Check.due("it is read", x.stateOf(DEVICE), 'o');
        Check.due("the line is raised", x.raisedOn(2), 1);
        x.addWrite(PROCESSOR, 103, 0);
        x.addWrite(PROCESSOR, 103, 1);
        x.run(3);
        Check.due("idle", x.stateOf(DEVICE), 'i');
        Check.due("a read is still in the list", x.listLength(DEVICE, false), 1);
        Check.due("ring index", x.ringIndex(DEVICE), 0);
        Check.due("doorbells", x.register(DEVICE, 0), 0);
        Check.due("no line", x.raisedOn(2), 0);
        x.run(10);
        Check.due("the answer was dropped", x.stateOf(DEVICE), 'i');
        Check.due("no error", x.errorsOf(DEVICE), 0);
        Check.due("figures stay", x.blocksOf(DEVICE), 1);
        Check.due("what was received stays", x.received(DEVICE), 1);
    }

    /** The answer to a read that was still in the list when the device fell asleep is dropped, error or not. */
    private static void sleepWithAReadInTheList() {
        BusHandler x = board();
        x.setArbiter(0, true);
        x.setRank(PROCESSOR, 9);
        x.addWrite(PROCESSOR, 101, 2000);
        x.addWrite(PROCESSOR, 102, 1);
        x.addWrite(PROCESSOR, 100, 1);
        x.addWrite(PROCESSOR, 103, 0);
        x.addWrite(PROCESSOR, 103, 1);
        x.run(5);
        Check.due("asleep", x.register(DEVICE, 3), 0);
        Check.due("the read is in the list", Check.lineOf(x, DEVICE), "2 device bus0 q2000");
        x.run(2);
        Check.due("the read has gone", x.listLength(DEVICE, false), 0);
        Check.due("no error", x.errorsOf(DEVICE), 0);
        x.run(70);
        Check.due("nor any later", x.lastError(DEVICE), '-');
    }

    /** How the device interrupts is what was told last before the interrupt. */
    private static void toldLast() {
        BusHandler x = startedBoard(40, 1, 1);
        x.setLine(DEVICE, 2);
        x.run(10);
        x.setMessage(DEVICE, 165);
        x.run(10);
        Check.due("by a write", x.pending(5), 1);
        Check.due("not by the line", x.raisedOn(2), 0);
        BusHandler y = startedBoard(40, 1, 1);
        y.setMessage(DEVICE, 165);
        y.setLine(DEVICE, 0);
        y.run(20);
        Check.due("by the line", y.raisedOn(0), 1);
        Check.due("not by a write", y.pending(5), 0);
        BusHandler first = startedBoard(40, 1, 1);
        first.setMessage(DEVICE, 0);
        first.run(20);
        Check.due("by a write of 1 to the address 0", first.cellAt(MEMORY, 0), 1);
        BusHandler z = startedBoard(40, 1, 1);
        z.setMessage(DEVICE, 165);
        z.setLine(DEVICE, -1);
        z.run(20);
        Check.due("not at all", z.rung(), 0);
        Check.due("but it has ended", z.blocksOf(DEVICE), 1);
    }

    /** A processor with the greater rank keeps the bus from the cycle 13 to the cycle 28. */
    private static void fullListOfADevice() {
        BusHandler x = startedBoard(40, 6, 0);
        giveData(x, 6);
        x.setMessage(DEVICE, 161);
        x.addProcessor(0);
        x.setArbiter(0, true);
        x.setRank(4, 9);
        x.run(11);
        for (int n = 0; n < 16; n++) {
            x.addWrite(4, 900, n);
        }
        Check.due("states", statesOf(x, 17), "mmmmmmmmmmmmmmmmm");
        Check.due("4 messages", Check.lineOf(x, DEVICE), "2 device bus0 w40 w41 w42 w43");
        Check.due("no value is gone", x.load(DEVICE, 1), 3);
        Check.due("then it goes on", statesOf(x, 5), "mwrni");
        x.run(8);
        Check.due("the last value", x.cellAt(MEMORY, 45), 36);
        Check.due("6 were moved", x.cellAt(MEMORY, 10), 6);
        Check.due("the interrupt", x.pending(1), 1);
        Check.due("none early", x.early(), 0);
    }

    /** Five answers in the list of the device hold its own reads back. */
    private static void answersNeedNoRoom() {
        BusHandler x = board();
        x.setArbiter(0, true);
        for (int k = 4; k < 9; k++) {
            x.addProcessor(0);
            x.setRank(k, 9);
            x.addRead(k, 102);
        }
        x.addProcessor(0);
        x.setRank(9, 5);
        x.run(5);
        for (int n = 0; n < 8; n++) {
            x.addWrite(9, n < 1 ? 102 : n < 2 ? 100 : 900, 1);
        }
        x.run(1);
        Check.due("five answers", Check.lineOf(x, DEVICE), "2 device bus0 a a a a a");
        x.run(3);
        Check.due("it goes on with the owner", x.stateOf(DEVICE), 'o');
        Check.due("but does not read yet", x.listLength(DEVICE, false), 5);
        x.run(6);
        Check.due("one answer has gone", x.listLength(DEVICE, false), 4);
        x.run(1);
        Check.due("and the read comes", Check.lineOf(x, DEVICE), "2 device bus0 a a a q0");
    }

    private static void pull() {
        BusHandler x = board();
        putDescriptor(x, 8, 40, 1, 1);
        putDescriptor(x, 12, 40, 2, 1);
        x.setLine(DEVICE, 2);
        start(x, 2, 2);
        x.run(18);
        Check.due("the read is out", x.stateOf(DEVICE), 'o');
        Check.due("no message is lost", x.pull(DEVICE), 0);
        Check.due("gone", x.stateOf(DEVICE), 'g');
        Check.thrown("pull again", Check.STATE, () -> x.pull(DEVICE));
        Check.due("no line", x.raisedOn(2), 0);
        Check.due("doorbells stay", x.register(DEVICE, 0), 1);
        Check.due("base stays", x.register(DEVICE, 1), 8);
        Check.due("size stays", x.register(DEVICE, 2), 2);
        Check.due("awake stays", x.register(DEVICE, 3), 1);
        Check.due("ring index stays", x.ringIndex(DEVICE), 1);
        Check.due("received stays", x.receivedAt(DEVICE, 0), 0);
        Check.due("blocks stay", x.blocksOf(DEVICE), 1);
        Check.due("nobody there", x.targetOf(0, 100), -1);
        Check.due("its answer has gone, and is dropped", x.run(9), 1);
        Check.due("it does not act", x.listLength(DEVICE, false), 0);
        Check.due("nor is its line raised", x.errorsOf(DEVICE), 0);
        x.addWrite(PROCESSOR, 100, 1);
        x.addRead(PROCESSOR, 103);
        x.run(4);
        Check.due("a write to it is lost", x.lost(), 1);
        Check.due("a read of it", x.errorAt(PROCESSOR, 0), 'n');
        Check.due("the register stays", x.register(DEVICE, 0), 1);
    }

    private static void pullWithMessages() {
        BusHandler x = startedBoard(40, 6, 0);
        giveData(x, 6);
        x.setMessage(DEVICE, 161);
        x.addProcessor(0);
        x.setArbiter(0, true);
        x.setRank(4, 9);
        x.run(11);
        for (int n = 0; n < 16; n++) {
            x.addWrite(4, 900, n);
        }
        x.run(8);
        Check.due("4 messages are lost", x.pull(DEVICE), 4);
        Check.due("they are in no list any more", x.listLength(DEVICE, false), 0);
        x.run(30);
        Check.due("nothing was written", x.cellAt(MEMORY, 40), 0);
        Check.due("they do not count as lost writes", x.lost(), 16);

        BusHandler y = startedBoard(40, 1, 1);
        y.setMessage(DEVICE, 161);
        y.run(18);
        Check.due("pending", y.pending(1), 1);
        y.pull(DEVICE);
        Check.due("what is pending stays", y.pending(1), 1);
        y.addWait(PROCESSOR, 1);
        y.run(1);
        Check.due("and can be taken", y.takenAt(PROCESSOR, 0), 1);
    }
}
