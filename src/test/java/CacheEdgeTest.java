/** "Going" and "Processors": which writes take an address out of which caches, and which answers come into one. */
public final class CacheEdgeTest {
    private static final int MEMORY = 0;
    private static final int DEVICE = 1;
    private static final int BRIDGE = 3;
    private static final int READER = 4;
    private static final int WRITER = 5;
    private static final int MEMORY_BELOW = 6;
    private static final int READER_BELOW = 7;
    private static final int NOBODYS = 900;

    public static void main(String[] args) {
        writesToEachKindOfReceiver();
        writeToASleepingDevice();
        writesToNobody();
        writesOfADevice();
        writesThatComeDown();
        writesThatComeUp();
        answerBehindAWrite();
        cacheOfADeviceThatIsMoved();
        Check.end();
    }

    /** All kinds of agents on the bus 0, a memory and a processor on the bus 1 below. */
    private static BusHandler board() {
        BusHandler x = new BusHandler();
        x.addMemory(0, 0, 64);
        x.addDevice(0, 101);
        x.addRouter(0, 163);
        x.addBridge(0, 500, 100);
        x.addProcessor(0);
        x.addProcessor(0);
        x.addMemory(1, 500, 16);
        x.addProcessor(1);
        return x;
    }

    private static void cache(BusHandler x, int reader, int address) {
        x.addRead(reader, address);
        x.run(12);
        Check.due(address + " is in the cache", x.isCached(reader, address), true);
    }

    private static void write(BusHandler x, int address, int value) {
        x.addWrite(WRITER, address, value);
        x.run(2);
    }

    /** "A write that goes on a bus takes its address out of the caches": whoever gets it, as it goes, and only it. */
    private static void writesToEachKindOfReceiver() {
        for (int address : new int[] {3, 102, 165, 505}) {
            BusHandler x = board();
            cache(x, READER, 4);
            cache(x, READER, address);
            x.addWrite(WRITER, address, 1);
            x.run(1);
            Check.due(address + " before the write goes", x.isCached(READER, address), true);
            x.run(1);
            Check.due(address + " as it has gone", x.isCached(READER, address), false);
            Check.due("another address", x.isCached(READER, 4), true);
        }
    }

    /** The write is lost, but it has gone. */
    private static void writeToASleepingDevice() {
        BusHandler x = board();
        write(x, 102, 8);
        cache(x, READER, 102);
        write(x, 104, 0);
        Check.due("asleep", x.register(DEVICE, 3), 0);
        Check.due("sleep leaves the cache", x.isCached(READER, 102), true);
        write(x, 102, 9);
        Check.due("lost", x.lost(), 1);
        Check.due("the register stays", x.register(DEVICE, 1), 8);
        Check.due("but it is out of the cache", x.isCached(READER, 102), false);
    }

    private static void writesToNobody() {
        BusHandler pulled = board();
        cache(pulled, READER, 102);
        pulled.pull(DEVICE);
        Check.due("pulling leaves the cache", pulled.isCached(READER, 102), true);
        write(pulled, 102, 1);
        Check.due("a write to a pulled device is lost", pulled.lost(), 1);
        Check.due("but takes the address out", pulled.isCached(READER, 102), false);
        BusHandler moved = board();
        cache(moved, READER, 3);
        moved.moveWindow(MEMORY, 700);
        write(moved, 3, 1);
        Check.due("nobody's since the window was moved", moved.lost(), 1);
        Check.due("out of the cache, too", moved.isCached(READER, 3), false);
    }

    /** Those of a value, of the length and of the owner; what the device only reads stays. */
    private static void writesOfADevice() {
        BusHandler x = board();
        x.put(MEMORY, 8, 1);
        x.put(MEMORY, 9, 40);
        x.put(MEMORY, 10, 1);
        x.load(DEVICE, 77);
        x.addRead(READER, 8);
        x.addRead(READER, 9);
        x.addRead(READER, 10);
        x.addRead(READER, 40);
        x.run(20);
        write(x, 102, 8);
        write(x, 103, 1);
        for (int address : new int[] {8, 9, 10, 40}) {
            Check.due(address + " is in the cache", x.isCached(READER, address), true);
        }
        write(x, 101, 1);
        x.run(20);
        Check.due("the descriptor has ended", x.blocksOf(DEVICE), 1);
        Check.due("the value was written", x.isCached(READER, 40), false);
        Check.due("the length was written", x.isCached(READER, 10), false);
        Check.due("the owner was written", x.isCached(READER, 8), false);
        Check.due("the address was only read", x.isCached(READER, 9), true);
    }

    /** "The caches of all processors on this bus": on the bus 0 first, on the bus 1 when it goes there. */
    private static void writesThatComeDown() {
        BusHandler x = board();
        cache(x, READER, 505);
        cache(x, READER_BELOW, 505);
        write(x, 505, 1);
        Check.due("above", x.isCached(READER, 505), false);
        Check.due("below, not yet", x.isCached(READER_BELOW, 505), true);
        x.run(1);
        Check.due("below", x.isCached(READER_BELOW, 505), false);
        Check.due("the cell", x.cellAt(MEMORY_BELOW, 5), 1);
    }

    private static void writesThatComeUp() {
        BusHandler x = board();
        cache(x, READER, 3);
        cache(x, READER_BELOW, 3);
        x.addWrite(READER_BELOW, 900, 1);
        x.addWrite(READER_BELOW, 3, 1);
        x.run(2);
        Check.due("its own, when it comes into its list", x.isCached(READER_BELOW, 3), false);
        x.run(1);
        Check.due("above, not yet", x.isCached(READER, 3), true);
        Check.due("in the bridge", Check.lineOf(x, BRIDGE), "3 bridge bus0 w3");
        x.run(1);
        Check.due("above", x.isCached(READER, 3), false);
        Check.due("the cell", x.cellAt(MEMORY, 3), 1);
    }

    /** "An answer without an error comes into it": also when a write has gone between the read and its answer. */
    private static void answerBehindAWrite() {
        BusHandler x = board();
        x.put(MEMORY, 3, 7);
        x.setArbiter(0, true);
        x.setRank(WRITER, 9);
        x.addRead(READER, 3);
        x.run(1);
        x.addWrite(WRITER, 3, 8);
        x.run(2);
        Check.due("the write has gone ahead of the answer", x.cellAt(MEMORY, 3), 8);
        Check.due("which is still in the list", Check.lineOf(x, MEMORY), "0 memory bus0 a");
        x.run(1);
        Check.due("the value of then", x.valueAt(READER, 0), 7);
        Check.due("comes into the cache", x.isCached(READER, 3), true);
        x.addRead(READER, 3);
        x.run(1);
        Check.due("and is given again at once", x.readsOf(READER), 2);
        Check.due("from the cache", x.valueAt(READER, 1), 7);
        write(x, 3, 9);
        Check.due("until the next write", x.isCached(READER, 3), false);
    }

    /** What is in a cache is an address, whoever claims it. */
    private static void cacheOfADeviceThatIsMoved() {
        BusHandler x = board();
        write(x, 102, 8);
        cache(x, READER, 102);
        x.moveWindow(DEVICE, NOBODYS);
        x.addRead(READER, 102);
        x.run(1);
        Check.due("at once", x.readsOf(READER), 2);
        Check.due("from the cache", x.valueAt(READER, 1), 8);
        write(x, NOBODYS + 1, 9);
        Check.due("the register by its new address", x.register(DEVICE, 1), 9);
        Check.due("the old address stays in the cache", x.isCached(READER, 102), true);
    }
}
