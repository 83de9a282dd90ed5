/** "Rings": where a ring begins and goes round, lengths from 1 to 8, 40 values, and how a descriptor ends. */
public final class DescriptorEdgeTest {
    private static final int MEMORY = 0;
    private static final int PROCESSOR = 1;
    private static final int DEVICE = 2;

    public static void main(String[] args) {
        doorbellsAndASize();
        lastDoorbell();
        doorbellsInTheMidst();
        addressesOfTheRing();
        ringsGoRound();
        ringOfEightBeginsAnew();
        sizeChangesInTheMidst();
        ringAtTheEndOfTheAddresses();
        baseAsItIsThen();
        owners();
        lengths();
        lengthsInward();
        bitsOfTheFlags();
        flagsOfALengthThatDoesNotFit();
        asMuchDataAsTheLength();
        dataThatComesInTheMidst();
        dataThatComesTooLate();
        fortyValuesInAll();
        nothingBehindFortyValues();
        dataTakeNoRoomFromWhatIsReceived();
        greatValuesAndAddresses();
        errorsOfTheFourReads();
        lateErrorsOfTheFourReads();
        errorsInABlock();
        errorInABlockWithMore();
        sleepingNeighbour();
        sleepingNeighbourInABlock();
        placesOfTheEnd();
        interruptAsToldLast();
        nextDescriptorInTheNextAct();
        figuresOfManyBlocks();
        Check.end();
    }

    /** A memory at 0, a processor, a device at 100, a router at 160. */
    private static BusHandler board() {
        BusHandler x = new BusHandler();
        x.addMemory(0, 0, 96);
        x.addProcessor(0);
        x.addDevice(0, 100);
        x.addRouter(0, 160);
        return x;
    }

    private static void putDescriptor(BusHandler x, int at, int address, int length, int flags) {
        x.put(MEMORY, at, 1);
        x.put(MEMORY, at + 1, address);
        x.put(MEMORY, at + 2, length);
        x.put(MEMORY, at + 3, flags);
    }

    private static void start(BusHandler x, int base, int ringSize, int doorbells) {
        x.addWrite(PROCESSOR, 101, base);
        x.addWrite(PROCESSOR, 102, ringSize);
        x.addWrite(PROCESSOR, 100, doorbells);
    }

    private static void giveData(BusHandler x, int count) {
        for (int n = 0; n < count; n++) {
            x.load(DEVICE, 31 + n);
        }
    }

    private static void runUntilIdle(BusHandler x) {
        x.run(4);
        for (int n = 0; n < 80 && x.stateOf(DEVICE) != 'i'; n++) {
            x.run(1);
        }
        x.run(3);
    }

    // ---- doorbells

    /** "A device that is idle, and has doorbells and a ring size greater than 0, goes on with 'o' in the same act." */
    private static void doorbellsAndASize() {
        BusHandler x = board();
        x.addWrite(PROCESSOR, 102, 1);
        x.run(5);
        Check.due("no doorbell", x.stateOf(DEVICE), 'i');
        x.addWrite(PROCESSOR, 100, 0);
        x.run(5);
        Check.due("a write of 0 rings none", x.stateOf(DEVICE), 'i');
        x.addWrite(PROCESSOR, 100, 1);
        x.run(2);
        Check.due("one doorbell", x.stateOf(DEVICE), 'o');
        Check.due("it reads in the same act", Check.lineOf(x, DEVICE), "2 device bus0 q0");
        BusHandler y = board();
        y.addWrite(PROCESSOR, 100, 99);
        y.run(5);
        Check.due("no size", y.stateOf(DEVICE), 'i');
        y.addWrite(PROCESSOR, 102, 9);
        y.run(5);
        Check.due("nor is 9 one", y.stateOf(DEVICE), 'i');
        y.addWrite(PROCESSOR, 102, 1);
        y.run(2);
        Check.due("a size of 1", y.stateOf(DEVICE), 'o');
    }

    /** "The doorbells decrease by 1; it is idle." */
    private static void lastDoorbell() {
        for (int bells : new int[] {1, 2, 3, 99}) {
            BusHandler x = board();
            putDescriptor(x, 8, 40, 1, 1);
            start(x, 8, 1, bells);
            x.run(15);
            Check.due("not before the end", x.register(DEVICE, 0), bells);
            x.run(1);
            Check.due("one less", x.register(DEVICE, 0), bells - 1);
            Check.due("idle", x.stateOf(DEVICE), 'i');
            x.run(1);
            Check.due("with the last one it stays so", x.stateOf(DEVICE), bells == 1 ? 'i' : 'o');
            x.run(60);
            Check.due("the next one is not its own", x.errorsOf(DEVICE), bells == 1 ? 0 : 1);
            Check.due("so that no doorbell is left", x.register(DEVICE, 0), 0);
        }
    }

    private static void doorbellsInTheMidst() {
        BusHandler x = board();
        putDescriptor(x, 8, 40, 1, 1);
        putDescriptor(x, 12, 41, 1, 1);
        start(x, 8, 2, 1);
        x.run(8);
        x.addWrite(PROCESSOR, 100, 1);
        x.run(3);
        Check.due("two doorbells", x.register(DEVICE, 0), 2);
        runUntilIdle(x);
        x.run(30);
        Check.due("two blocks", x.blocksOf(DEVICE), 2);
        Check.due("no doorbell", x.register(DEVICE, 0), 0);
        BusHandler y = board();
        putDescriptor(y, 8, 40, 1, 1);
        start(y, 8, 1, 99);
        y.run(8);
        y.addWrite(PROCESSOR, 100, 9999);
        y.run(3);
        Check.due("not more than 99", y.register(DEVICE, 0), 99);
    }

    // ---- where the ring is

    /** "The descriptor with the index k of a ring has the addresses base + 4 * k", for each ring size. */
    private static void addressesOfTheRing() {
        for (int size = 1; size <= 8; size++) {
            BusHandler x = board();
            for (int k = 0; k < 8; k++) {
                putDescriptor(x, 8 + 4 * k, 48 + k, 1, 1);
                x.put(MEMORY, 48 + k, 70 + k);
            }
            start(x, 8, size, 99);
            x.run(16 * size + 10);
            Check.due("blocks of a ring of " + size, x.blocksOf(DEVICE), size);
            for (int k = 0; k < size; k++) {
                Check.due("each one once, in order", x.receivedAt(DEVICE, k), 70 + k);
                Check.due("its owner", x.cellAt(MEMORY, 8 + 4 * k), 0);
            }
            for (int k = size; k < 8; k++) {
                Check.due("none behind them", x.cellAt(MEMORY, 8 + 4 * k), 1);
            }
            Check.due("the first one is not its own any more", x.lastError(DEVICE), 'o');
            Check.due("at the first one", x.ringIndex(DEVICE), 0);
        }
    }

    /** "The ring index increases by 1, or becomes 0 if it would not be less than the size of the ring then." */
    private static void ringsGoRound() {
        for (int size = 1; size <= 8; size++) {
            BusHandler x = board();
            for (int k = 0; k < 8; k++) {
                putDescriptor(x, 8 + 4 * k, 48, 1, 1);
            }
            start(x, 8, size, 1);
            runUntilIdle(x);
            for (int n = 1; n < 10; n++) {
                Check.due("a ring of " + size + ", block " + n, x.ringIndex(DEVICE), n % size);
                Check.due("blocks", x.blocksOf(DEVICE), n);
                x.put(MEMORY, 8 + 4 * (n % size), 1);
                if (n < 9) {
                    x.addWrite(PROCESSOR, 100, 1);
                    runUntilIdle(x);
                }
            }
        }
    }

    private static void ringOfEightBeginsAnew() {
        BusHandler x = board();
        for (int k = 0; k < 8; k++) {
            putDescriptor(x, 8 + 4 * k, 48 + k, 1, 1);
            x.put(MEMORY, 48 + k, 70 + k);
        }
        start(x, 8, 8, 9);
        x.run(100);
        Check.due("the last one is at hand", x.ringIndex(DEVICE), 7);
        x.put(MEMORY, 8, 1);
        x.run(60);
        Check.due("nine blocks", x.blocksOf(DEVICE), 9);
        Check.due("the ninth is the first one again", x.receivedAt(DEVICE, 8), 70);
        Check.due("then the second one is next", x.ringIndex(DEVICE), 1);
        Check.due("no error", x.errorsOf(DEVICE), 0);
    }

    /** "The size of the ring then": at the end of the descriptor. */
    private static void sizeChangesInTheMidst() {
        int[][] dues = {{1, 0}, {2, 0}, {3, 0}, {4, 3}, {8, 3}};
        for (int[] due : dues) {
            BusHandler x = board();
            for (int k = 0; k < 8; k++) {
                putDescriptor(x, 8 + 4 * k, 48, 1, 1);
            }
            start(x, 8, 5, 3);
            x.run(32);
            Check.due("the third one is at hand", x.ringIndex(DEVICE), 2);
            x.addWrite(PROCESSOR, 102, due[0]);
            x.run(4);
            Check.due("the index stays until the end", x.ringIndex(DEVICE), 2);
            x.run(20);
            Check.due("then it is less than the size " + due[0], x.ringIndex(DEVICE), due[1]);
            Check.due("three blocks", x.blocksOf(DEVICE), 3);
            Check.due("the third one's own places are written", x.cellAt(MEMORY, 16), 0);
            Check.due("no error", x.errorsOf(DEVICE), 0);
        }
    }

    /** A ring at 1020 ends at 1023; one at 1021 has its flags at 1024, which is nobody's. */
    private static void ringAtTheEndOfTheAddresses() {
        for (int base = 1020; base <= 1024; base++) {
            BusHandler x = new BusHandler();
            x.addMemory(0, 1016, 8);
            x.addProcessor(0);
            x.addDevice(0, 100);
            for (int offset = 0; offset < 8; offset++) {
                x.put(MEMORY, offset, offset == 7 && base == 1020 ? 0 : 1);
            }
            start(x, base, 1, 1);
            x.run(40);
            Check.due("blocks of the ring at " + base, x.blocksOf(DEVICE), base == 1020 ? 1 : 0);
            Check.due("errors", x.errorsOf(DEVICE), base == 1020 ? 0 : 1);
            Check.due("the error", x.lastError(DEVICE), base == 1020 ? '-' : 'n');
        }
        BusHandler y = board();
        putDescriptor(y, 0, 40, 1, 1);
        start(y, 0, 1, 1);
        y.run(30);
        Check.due("a ring at 0", y.blocksOf(DEVICE), 1);
        BusHandler z = board();
        start(z, 9999, 1, 1);
        z.run(10);
        Check.due("a ring at 9999", z.lastError(DEVICE), 'n');
    }

    /** "By the base and the ring index as they are then": also what is written at the end. */
    private static void baseAsItIsThen() {
        BusHandler x = board();
        putDescriptor(x, 8, 40, 2, 1);
        putDescriptor(x, 60, 41, 3, 0);
        x.put(MEMORY, 60, 9);
        x.put(MEMORY, 40, 5);
        start(x, 8, 1, 1);
        x.run(14);
        Check.due("it moves the block", x.stateOf(DEVICE), 'm');
        x.setArbiter(0, true);
        x.setRank(PROCESSOR, 9);
        x.addWrite(PROCESSOR, 101, 60);
        x.run(12);
        Check.due("the values by the descriptor that was read", x.receivedAt(DEVICE, 0), 5);
        Check.due("the length there stays", x.cellAt(MEMORY, 10), 2);
        Check.due("how many were moved goes to the new place", x.cellAt(MEMORY, 62), 2);
        Check.due("the owner there stays", x.cellAt(MEMORY, 8), 1);
        Check.due("the one at the new place is 0", x.cellAt(MEMORY, 60), 0);
    }

    // ---- what a descriptor tells

    /** "If the owner is not 1, this is the error 'o', with the same end." */
    private static void owners() {
        for (int owner : new int[] {0, 1, 2, 3, 257, 9999}) {
            BusHandler x = board();
            putDescriptor(x, 8, 40, 1, 1);
            x.put(MEMORY, 8, owner);
            start(x, 8, 2, 5);
            x.run(6);
            Check.due("the owner " + owner, x.stateOf(DEVICE), owner == 1 ? 'a' : 'i');
            Check.due("errors", x.errorsOf(DEVICE), owner == 1 ? 0 : 1);
            Check.due("the error", x.lastError(DEVICE), owner == 1 ? '-' : 'o');
            Check.due("doorbells", x.register(DEVICE, 0), owner == 1 ? 5 : 0);
            Check.due("the index", x.ringIndex(DEVICE), 0);
            if (owner != 1) {
                x.run(20);
                Check.due("nothing is written", x.cellAt(MEMORY, 8), owner);
                Check.due("it has not ended", x.blocksOf(DEVICE), 0);
                x.put(MEMORY, 8, 1);
                x.addWrite(PROCESSOR, 100, 1);
                x.run(20);
                Check.due("it can be rung again", x.blocksOf(DEVICE), 1);
            }
        }
    }

    /** "If the length is not from 1 to 8, this is the error 'l', nothing is moved." */
    private static void lengths() {
        for (int length : new int[] {0, 1, 2, 7, 8, 9, 10, 9999}) {
            boolean fits = length >= 1 && length <= 8;
            BusHandler x = board();
            putDescriptor(x, 8, 40, length, 0);
            giveData(x, 12);
            start(x, 8, 2, 1);
            runUntilIdle(x);
            int moved = fits ? length : 0;
            Check.due("moved of the length " + length, x.cellAt(MEMORY, 10), moved);
            for (int n = 0; n < 10; n++) {
                Check.due("the values", x.cellAt(MEMORY, 40 + n), n < moved ? 31 + n : 0);
            }
            Check.due("errors", x.errorsOf(DEVICE), fits ? 0 : 1);
            Check.due("the error", x.lastError(DEVICE), fits ? '-' : 'l');
            Check.due("it has ended all the same", x.blocksOf(DEVICE), 1);
            Check.due("the owner", x.cellAt(MEMORY, 8), 0);
            Check.due("the next one", x.ringIndex(DEVICE), 1);
            Check.due("the rest of the data", x.load(DEVICE, 0), 13 - moved);
        }
    }

    private static void lengthsInward() {
        for (int length : new int[] {0, 1, 7, 8, 9}) {
            BusHandler x = board();
            putDescriptor(x, 8, 40, length, 1);
            for (int n = 0; n < 10; n++) {
                x.put(MEMORY, 40 + n, 61 + n);
            }
            start(x, 8, 1, 1);
            runUntilIdle(x);
            int moved = length >= 1 && length <= 8 ? length : 0;
            Check.due("received of the length " + length, x.received(DEVICE), moved);
            Check.due("moved", x.cellAt(MEMORY, 10), moved);
            for (int n = 0; n < moved; n++) {
                Check.due("the values", x.receivedAt(DEVICE, n), 61 + n);
            }
            Check.thrown("no more", Check.MISSING, () -> x.receivedAt(DEVICE, moved));
        }
    }

    /** "The flags tell the direction by their bit 0, and whether there is more by their bit 1." */
    private static void bitsOfTheFlags() {
        for (int flags : new int[] {0, 1, 2, 3, 4, 5, 6, 7, 8, 9, 256, 9996, 9997, 9998, 9999}) {
            BusHandler x = board();
            putDescriptor(x, 8, 40, 1, flags);
            x.put(MEMORY, 40, 61);
            giveData(x, 1);
            x.setLine(DEVICE, 0);
            start(x, 8, 1, 1);
            runUntilIdle(x);
            Check.due("inward by the flags " + flags, x.received(DEVICE), flags % 2);
            Check.due("outward", x.cellAt(MEMORY, 40), flags % 2 == 1 ? 61 : 31);
            Check.due("the interrupt", x.raisedOn(0), flags / 2 % 2 == 1 ? 0 : 1);
            Check.due("the flags are not written", x.cellAt(MEMORY, 11), flags);
            Check.due("ended", x.blocksOf(DEVICE), 1);
        }
    }

    /** "Its flags count as 0": it interrupts, also when the flags tell of more, or the ones before did. */
    private static void flagsOfALengthThatDoesNotFit() {
        for (int length : new int[] {0, 9}) {
            BusHandler x = board();
            putDescriptor(x, 8, 40, 1, 3);
            putDescriptor(x, 12, 40, length, 3);
            x.setLine(DEVICE, 0);
            start(x, 8, 2, 2);
            x.run(17);
            Check.due("the first one tells of more", x.raisedOn(0), 0);
            x.run(20);
            Check.due("the second one interrupts", x.raisedOn(0), 1);
            Check.due("both have ended", x.blocksOf(DEVICE), 2);
            Check.due("one error", x.errorsOf(DEVICE), 1);
        }
    }

    // ---- blocks

    /** "As soon as as many values as the length are moved, or the device has no data." */
    private static void asMuchDataAsTheLength() {
        for (int data = 0; data <= 5; data++) {
            BusHandler x = board();
            putDescriptor(x, 8, 40, 4, 0);
            giveData(x, data);
            start(x, 8, 1, 1);
            runUntilIdle(x);
            int moved = Math.min(4, data);
            Check.due("moved with " + data + " values", x.cellAt(MEMORY, 10), moved);
            Check.due("the last one", x.cellAt(MEMORY, 40 + Math.max(0, moved - 1)), moved == 0 ? 0 : 30 + moved);
            Check.due("none behind it", x.cellAt(MEMORY, 40 + moved), 0);
            Check.due("what is left", x.load(DEVICE, 0), data - moved + 1);
            Check.due("this is no error", x.errorsOf(DEVICE), 0);
            Check.due("it has ended", x.blocksOf(DEVICE), 1);
        }
    }

    /** Data that come while the block is moved are moved with it. */
    private static void dataThatComesInTheMidst() {
        BusHandler x = board();
        putDescriptor(x, 8, 40, 3, 0);
        giveData(x, 2);
        start(x, 8, 1, 1);
        x.run(12);
        Check.due("one is moved", x.stateOf(DEVICE), 'm');
        Check.due("another one comes", x.load(DEVICE, 99), 2);
        runUntilIdle(x);
        Check.due("three were moved", x.cellAt(MEMORY, 10), 3);
        Check.due("the third one", x.cellAt(MEMORY, 42), 99);
    }

    /** "As soon as the block has ended it goes on with 'w'": without data it has ended, whatever comes then. */
    private static void dataThatComesTooLate() {
        BusHandler x = board();
        putDescriptor(x, 8, 40, 3, 0);
        giveData(x, 1);
        start(x, 8, 1, 1);
        x.run(12);
        Check.due("the only one is moved, so it has ended", x.stateOf(DEVICE), 'w');
        x.load(DEVICE, 99);
        runUntilIdle(x);
        Check.due("one was moved", x.cellAt(MEMORY, 10), 1);
        Check.due("the other one is still there", x.load(DEVICE, 99), 2);
    }

    /** A device that has received some values in blocks of 8 and one of the rest; the bell is rung for each block. */
    private static BusHandler received(int count) {
        BusHandler x = board();
        for (int n = 0; n < 8; n++) {
            x.put(MEMORY, 40 + n, 61 + n);
        }
        start(x, 8, 1, 0);
        for (int left = count; left > 0; left -= Math.min(8, left)) {
            putDescriptor(x, 8, 40, Math.min(8, left), 1);
            x.addWrite(PROCESSOR, 100, 1);
            x.run(42);
        }
        Check.due("received", x.received(DEVICE), count);
        return x;
    }

    /** "Or the device has received 40 values in all." */
    private static void fortyValuesInAll() {
        for (int count : new int[] {32, 36, 38, 39}) {
            for (int length : new int[] {1, 2, 8}) {
                BusHandler x = received(count);
                int blocks = x.blocksOf(DEVICE);
                putDescriptor(x, 8, 40, length, 1);
                x.addWrite(PROCESSOR, 100, 1);
                x.run(42);
                int moved = Math.min(length, 40 - count);
                Check.due("received behind " + count, x.received(DEVICE), count + moved);
                Check.due("moved", x.cellAt(MEMORY, 10), moved);
                Check.due("the last value", x.receivedAt(DEVICE, count + moved - 1), 60 + moved);
                Check.thrown("none behind it", Check.MISSING, () -> x.receivedAt(DEVICE, count + moved));
                Check.due("no error", x.errorsOf(DEVICE), 0);
                Check.due("ended", x.blocksOf(DEVICE), blocks + 1);
            }
        }
    }

    /** "Perhaps before anything is moved": with 40 values no read is made at all. */
    private static void nothingBehindFortyValues() {
        BusHandler x = received(40);
        putDescriptor(x, 8, 40, 3, 1);
        long sent = x.sentOn(0);
        x.addWrite(PROCESSOR, 100, 1);
        x.run(42);
        Check.due("the bell, four reads and their answers, and two writes", x.sentOn(0), sent + 11);
        Check.due("40 values", x.received(DEVICE), 40);
        Check.due("none was moved", x.cellAt(MEMORY, 10), 0);
        Check.due("ended", x.blocksOf(DEVICE), 6);
        Check.due("no error", x.errorsOf(DEVICE), 0);
        putDescriptor(x, 8, 40, 3, 0);
        giveData(x, 3);
        x.addWrite(PROCESSOR, 100, 1);
        x.run(42);
        Check.due("outward it goes on", x.cellAt(MEMORY, 10), 3);
        Check.due("the last of them", x.cellAt(MEMORY, 42), 33);
    }

    /** What is loaded and what is received are two things. */
    private static void dataTakeNoRoomFromWhatIsReceived() {
        BusHandler x = received(38);
        giveData(x, 40);
        putDescriptor(x, 8, 40, 8, 1);
        x.addWrite(PROCESSOR, 100, 1);
        x.run(42);
        Check.due("two more", x.received(DEVICE), 40);
        Check.due("were moved", x.cellAt(MEMORY, 10), 2);
        putDescriptor(x, 8, 40, 8, 0);
        x.addWrite(PROCESSOR, 100, 1);
        x.run(42);
        Check.due("8 of the data are written", x.cellAt(MEMORY, 47), 38);
        Check.due("32 are left", x.load(DEVICE, 0), 33);
    }

    /** "The value, 0 to 9999": as data, as what is received, as an address, and as a base. */
    private static void greatValuesAndAddresses() {
        BusHandler x = board();
        x.put(MEMORY, 40, 9999);
        putDescriptor(x, 8, 40, 1, 1);
        putDescriptor(x, 12, 50, 1, 0);
        putDescriptor(x, 16, 9999, 2, 0);
        x.load(DEVICE, 9999);
        x.load(DEVICE, 31);
        x.load(DEVICE, 32);
        start(x, 8, 3, 3);
        x.run(16);
        Check.due("received", x.receivedAt(DEVICE, 0), 9999);
        x.run(16);
        Check.due("written", x.cellAt(MEMORY, 50), 9999);
        for (int n = 0; n < 20 && x.listLength(DEVICE, false) + x.stateOf(DEVICE) != 'm' + 1; n++) {
            x.run(1);
        }
        Check.due("to the last address that a value can tell", Check.lineOf(x, DEVICE), "2 device bus0 w9999");
        x.run(1);
        Check.due("and to the next one", Check.lineOf(x, DEVICE), "2 device bus0 w10000");
        x.run(20);
        Check.due("both are lost", x.lost(), 2);
        Check.due("but moved", x.cellAt(MEMORY, 18), 2);
        start(x, 9999, 1, 1);
        x.run(3);
        Check.due("a base beyond all windows", x.register(DEVICE, 1), 9999);
        x.run(1);
        Check.due("its owner", Check.lineOf(x, DEVICE), "2 device bus0 q9999");
        x.run(3);
        Check.due("is nobody's", x.lastError(DEVICE), 'n');
    }

    // ---- errors

    /** "If a read of these four gives an error, this is an error of the device; no doorbells any more, and idle." */
    private static void errorsOfTheFourReads() {
        for (int part = 0; part < 4; part++) {
            BusHandler x = board();
            putDescriptor(x, 8, 40, 1, 1);
            putDescriptor(x, 12, 41, 1, 1);
            x.spoil(MEMORY, 12 + part);
            start(x, 8, 2, 7);
            x.run(60);
            Check.due("the first one has ended", x.blocksOf(DEVICE), 1);
            Check.due("one error", x.errorsOf(DEVICE), 1);
            Check.due("poison", x.lastError(DEVICE), 'p');
            Check.due("no doorbells", x.register(DEVICE, 0), 0);
            Check.due("idle", x.stateOf(DEVICE), 'i');
            Check.due("the index stays", x.ringIndex(DEVICE), 1);
            Check.due("one was received", x.received(DEVICE), 1);
            Check.due("the owner stays", x.cellAt(MEMORY, 12), 1);
            x.put(MEMORY, 12 + part, part == 1 ? 41 : 1);
            x.addWrite(PROCESSOR, 100, 1);
            x.run(20);
            Check.due("from the same one on", x.blocksOf(DEVICE), 2);
            Check.due("the error before is still told", x.lastError(DEVICE), 'p');
        }
    }

    /** The answer to each of the four reads is held back until the 64th time. */
    private static void lateErrorsOfTheFourReads() {
        for (int part = 0; part < 5; part++) {
            BusHandler x = board();
            putDescriptor(x, 8, 40, 2, 1);
            start(x, 8, 2, 7);
            for (int k = 4; k < 9; k++) {
                x.addProcessor(0);
                x.setRank(k, 9);
            }
            x.run(4 + 2 * part);
            for (int n = 0; n < 80; n++) {
                x.addWrite(4 + n % 5, 900, n);
            }
            x.run(1);
            x.setArbiter(0, true);
            Check.due("the read has gone", x.listLength(DEVICE, false), 0);
            x.run(62);
            Check.due("63 times", x.stateOf(DEVICE), "oalfm".charAt(part));
            Check.due("no error yet", x.errorsOf(DEVICE), 0);
            x.run(1);
            Check.due("64 times", x.lastError(DEVICE), 't');
            Check.due("it does nothing else", x.stateOf(DEVICE), part < 4 ? 'i' : 'w');
            Check.due("no message", x.listLength(DEVICE, false), 0);
            Check.due("doorbells", x.register(DEVICE, 0), part < 4 ? 0 : 7);
            x.setRank(MEMORY, 9);
            x.run(1);
            Check.due("the answer has gone", x.listLength(MEMORY, false), 0);
            Check.due("and is dropped", x.errorsOf(DEVICE) + x.received(DEVICE), 1);
        }
    }

    /** "It has ended, too, if a read gives an error, which is an error of the device." */
    private static void errorsInABlock() {
        for (int bad = 0; bad < 4; bad++) {
            BusHandler x = board();
            putDescriptor(x, 8, 40, 3, 1);
            x.setLine(DEVICE, 0);
            x.spoil(MEMORY, 40 + bad);
            start(x, 8, 2, 2);
            x.run(20);
            runUntilIdle(x);
            int moved = Math.min(3, bad);
            Check.due("moved", x.cellAt(MEMORY, 10), moved);
            Check.due("received", x.received(DEVICE), moved);
            Check.due("the descriptor has ended", x.blocksOf(DEVICE), 1);
            Check.due("it interrupts", x.raisedOn(0), 1);
            Check.due("the next one", x.ringIndex(DEVICE), 1);
            Check.due("errors, with that of the next owner", x.errorsOf(DEVICE), bad < 3 ? 2 : 1);
        }
    }

    /** "It interrupts, unless there is more": also behind an error. */
    private static void errorInABlockWithMore() {
        for (int flags = 1; flags <= 3; flags += 2) {
            BusHandler x = board();
            putDescriptor(x, 8, 40, 3, flags);
            x.setLine(DEVICE, 0);
            x.spoil(MEMORY, 41);
            start(x, 8, 2, 1);
            x.run(20);
            runUntilIdle(x);
            Check.due("one was moved", x.cellAt(MEMORY, 10), 1);
            Check.due("ended", x.blocksOf(DEVICE), 1);
            Check.due("the error", x.lastError(DEVICE), 'p');
            Check.due("the line", x.raisedOn(0), flags == 1 ? 1 : 0);
            Check.due("the bell", x.rung(), flags == 1 ? 1 : 0);
        }
    }

    /** A board with a device 4 at 96, just behind the memory, which is asleep. */
    private static BusHandler withSleeper() {
        BusHandler x = board();
        x.addDevice(0, 96);
        x.addWrite(PROCESSOR, 99, 0);
        x.run(2);
        Check.due("asleep", x.register(4, 3), 0);
        return x;
    }

    /** The error 's' of each of the four reads has the same end as the others. */
    private static void sleepingNeighbour() {
        for (int part = 0; part < 4; part++) {
            BusHandler x = withSleeper();
            int base = 96 - part;
            int[] words = {1, 40, 2, 1};
            for (int i = 0; i < part; i++) {
                x.put(MEMORY, base + i, words[i]);
            }
            start(x, base, 1, 5);
            x.run(30);
            Check.due("asleep", x.lastError(DEVICE), 's');
            Check.due("one error", x.errorsOf(DEVICE), 1);
            Check.due("no doorbells", x.register(DEVICE, 0), 0);
            Check.due("idle", x.stateOf(DEVICE), 'i');
            Check.due("no block has ended", x.blocksOf(DEVICE), 0);
            Check.due("nothing was written", x.lost(), 0);
        }
    }

    private static void sleepingNeighbourInABlock() {
        BusHandler x = withSleeper();
        x.put(MEMORY, 95, 61);
        putDescriptor(x, 8, 94, 4, 1);
        start(x, 8, 1, 1);
        x.run(40);
        Check.due("asleep", x.lastError(DEVICE), 's');
        Check.due("two values were received", x.received(DEVICE), 2);
        Check.due("the second one", x.receivedAt(DEVICE, 1), 61);
        Check.due("two were moved", x.cellAt(MEMORY, 10), 2);
        Check.due("ended", x.blocksOf(DEVICE), 1);
        putDescriptor(x, 8, 94, 4, 0);
        giveData(x, 4);
        x.addWrite(PROCESSOR, 100, 1);
        x.run(40);
        Check.due("outward all are moved", x.cellAt(MEMORY, 10), 4);
        Check.due("but two are lost", x.lost(), 2);
        Check.due("this is no error of the device", x.errorsOf(DEVICE), 1);
    }

    // ---- the end

    /** "To the place of the length", "0 to the place of the owner". */
    private static void placesOfTheEnd() {
        for (int k = 0; k < 8; k++) {
            BusHandler x = board();
            for (int i = 0; i < 8; i++) {
                putDescriptor(x, 8 + 4 * i, 48, i == k ? 5 : 1, 0);
            }
            start(x, 8, 8, k + 1);
            x.run(16 * k + 18);
            Check.due("blocks", x.blocksOf(DEVICE), k + 1);
            Check.due("0 were moved", x.cellAt(MEMORY, 10 + 4 * k), 0);
            Check.due("the owner", x.cellAt(MEMORY, 8 + 4 * k), 0);
            Check.due("the address stays", x.cellAt(MEMORY, 9 + 4 * k), 48);
            Check.due("the flags stay", x.cellAt(MEMORY, 11 + 4 * k), 0);
            Check.due("the cell ahead stays", x.cellAt(MEMORY, 7), 0);
            Check.due("the one behind stays", x.cellAt(MEMORY, 12 + 4 * k), k == 7 ? 0 : 1);
        }
    }

    /** "By a write of 1 to its message address, by raising its line, or not at all, as told last." */
    private static void interruptAsToldLast() {
        for (int way = 0; way < 4; way++) {
            BusHandler x = board();
            putDescriptor(x, 8, 40, 1, 1);
            if (way == 0) {
                x.setLine(DEVICE, 1);
                x.setMessage(DEVICE, 50);
            } else if (way == 1) {
                x.setMessage(DEVICE, 50);
                x.setLine(DEVICE, 1);
            } else if (way == 2) {
                x.setMessage(DEVICE, 50);
                x.setLine(DEVICE, -1);
            }
            start(x, 8, 1, 1);
            x.run(15);
            Check.due("what comes last", x.stateOf(DEVICE), 'n');
            x.run(6);
            Check.due("a write of 1", x.cellAt(MEMORY, 50), way == 0 ? 1 : 0);
            Check.due("the line", x.raisedOn(1), way == 1 ? 1 : 0);
            Check.due("ended in each way", x.blocksOf(DEVICE), 1);
            Check.due("the bell", x.rung(), way == 1 ? 1 : 0);
        }
        BusHandler z = board();
        putDescriptor(z, 8, 40, 1, 1);
        z.setMessage(DEVICE, 0);
        start(z, 8, 1, 1);
        z.run(21);
        Check.due("the address 0 is one, too", z.cellAt(MEMORY, 0), 1);
        BusHandler y = board();
        putDescriptor(y, 8, 40, 1, 1);
        y.setLine(DEVICE, 1);
        start(y, 8, 1, 1);
        y.run(15);
        y.setMessage(DEVICE, 1023);
        y.run(6);
        Check.due("told just ahead of it", y.raisedOn(1), 0);
        Check.due("to an address of nobody", y.lost(), 1);
    }

    private static void nextDescriptorInTheNextAct() {
        BusHandler x = board();
        putDescriptor(x, 8, 40, 1, 1);
        putDescriptor(x, 12, 41, 1, 1);
        start(x, 8, 2, 2);
        x.run(16);
        Check.due("idle in the act of the end", x.stateOf(DEVICE), 'i');
        Check.due("it has brought no read", x.listLength(DEVICE, false), 0);
        x.run(1);
        Check.due("in the next act it goes on", x.stateOf(DEVICE), 'o');
        Check.due("with the read", Check.lineOf(x, DEVICE), "2 device bus0 q12");
    }

    private static void figuresOfManyBlocks() {
        BusHandler x = board();
        start(x, 8, 1, 0);
        x.run(5);
        for (int n = 1; n <= 12; n++) {
            putDescriptor(x, 8, 40, n % 2 == 0 ? 9 : 1, 1);
            x.addWrite(PROCESSOR, 100, 1);
            x.run(24);
            Check.due("blocks", x.blocksOf(DEVICE), n);
            Check.due("errors", x.errorsOf(DEVICE), n / 2);
            Check.due("received", x.received(DEVICE), (n + 1) / 2);
        }
    }
}
