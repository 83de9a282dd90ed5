/** "Buses and agents", "Windows" and the promises 1 to 13: how many there may be, and where windows begin and end. */
public final class WindowEdgeTest {
    private static final char[] KINDS = {'m', 'p', 'd', 'r', 'b'};

    public static void main(String[] args) {
        fourBuses();
        busesInAStar();
        callsOfABus();
        sixteenAgents();
        pulledAgentsCount();
        agentsByNumber();
        sizesOfAMemory();
        sizesOfABridge();
        fourAddressesOfADevice();
        eightAddressesOfARouter();
        windowsWithinTheAddresses();
        windowsMovedWithinTheAddresses();
        windowsSideBySide();
        windowsThatOverlap();
        windowsMovedSideBySide();
        movedOverItself();
        windowsOfAnotherBus();
        pulledWindows();
        claimedByNobody();
        takenUpByTheBridge();
        takenUpByTwoBridges();
        writesBeyondTheAddresses();
        readsBeyondTheAddresses();
        beyondTheAddressesFromBelow();
        ranksAndManners();
        Check.end();
    }

    /** Adds an agent of a kind with a window of the size that it has, or of the size told for memories and bridges. */
    private static int add(BusHandler x, char kind, int bus, int base, int size) {
        switch (kind) {
            case 'm': return x.addMemory(bus, base, size);
            case 'd': return x.addDevice(bus, base);
            case 'r': return x.addRouter(bus, base);
            case 'b': return x.addBridge(bus, base, size);
            default: return x.addProcessor(bus);
        }
    }

    private static int sizeOf(char kind, int size) {
        return kind == 'd' ? 4 : kind == 'r' ? 8 : size;
    }

    // ---- buses and agents

    /** "There are at most 4 buses, numbered from 0; the bus 0 is there at first." */
    private static void fourBuses() {
        BusHandler x = new BusHandler();
        Check.due("one bus at first", x.buses(), 1);
        Check.due("the bus 0 is there", x.addProcessor(0), 0);
        for (int b = 1; b < 4; b++) {
            int below = b;
            Check.thrown("the bus is not there yet", Check.OUT, () -> x.addProcessor(below));
            Check.due("a bridge", x.addBridge(b - 1, 0, 1024), 2 * b - 1);
            Check.due("its bus has the next number", x.buses(), b + 1);
            Check.due("and is there", x.addProcessor(b), 2 * b);
        }
        Check.thrown("a fifth bus", Check.STATE, () -> x.addBridge(3, 0, 1024));
        Check.due("four buses", x.buses(), 4);
        Check.thrown("no bus 4", Check.OUT, () -> x.addProcessor(4));
        Check.due("no agent was added", x.addProcessor(3), 7);
    }

    private static void busesInAStar() {
        BusHandler x = new BusHandler();
        for (int b = 1; b < 4; b++) {
            x.addBridge(0, 100 * b, 100);
            Check.due("from below it leads up", x.targetOf(b, 0), b - 1);
        }
        Check.thrown("a fifth bus", Check.STATE, () -> x.addBridge(0, 500, 100));
        Check.due("it has no window", x.targetOf(0, 500), -1);
    }

    /** Each call that takes a bus takes the last one that is there, and no one behind it. */
    private static void callsOfABus() {
        for (int count = 1; count <= 4; count++) {
            BusHandler x = new BusHandler();
            for (int b = 1; b < count; b++) {
                x.addBridge(b - 1, 500, 100);
            }
            x.run(1);
            int last = count - 1;
            Check.due("setArbiter", x.setArbiter(last, false), false);
            Check.due("targetOf", x.targetOf(last, 550), -1);
            Check.due("sentOn", x.sentOn(last), 0);
            Check.due("busyShare", x.busyShare(last), 0.0f);
            Check.due("addMemory", x.addMemory(last, 0, 1), count - 1);
            Check.due("addProcessor", x.addProcessor(last), count);
            Check.due("addDevice", x.addDevice(last, 10), count + 1);
            Check.due("addRouter", x.addRouter(last, 20), count + 2);
            int next = count;
            Check.thrown("setArbiter", Check.OUT, () -> x.setArbiter(next, false));
            Check.thrown("targetOf", Check.OUT, () -> x.targetOf(next, 550));
            Check.thrown("sentOn", Check.OUT, () -> x.sentOn(next));
            Check.thrown("busyShare", Check.OUT, () -> x.busyShare(next));
            Check.thrown("addMemory", Check.OUT, () -> x.addMemory(next, 100, 1));
            Check.thrown("addProcessor", Check.OUT, () -> x.addProcessor(next));
            Check.thrown("addDevice", Check.OUT, () -> x.addDevice(next, 110));
            Check.thrown("addRouter", Check.OUT, () -> x.addRouter(next, 120));
            Check.thrown("addBridge", Check.OUT, () -> x.addBridge(next, 130, 1));
        }
    }

    /** "At most 16 agents are added in all, numbered from 0." */
    private static void sixteenAgents() {
        for (char kind : KINDS) {
            BusHandler x = new BusHandler();
            for (int k = 0; k < 15; k++) {
                Check.due("numbered from 0", x.addProcessor(0), k);
            }
            Check.due("the 16th one", add(x, kind, 0, 100, 10), 15);
            Check.due("is of its kind", x.kindOf(15), kind);
            for (char other : KINDS) {
                Check.thrown("a 17th one", Check.STATE, () -> add(x, other, 0, 200, 10));
            }
            Check.thrown("has no number", Check.OUT, () -> x.kindOf(16));
            Check.due("nor a window", x.targetOf(0, 200), -1);
            Check.due("nor a bus", x.buses(), kind == 'b' ? 2 : 1);
        }
    }

    /** "At most 16 agents are added in all": a device that is pulled gives no place back, nor its number. */
    private static void pulledAgentsCount() {
        BusHandler x = new BusHandler();
        for (int k = 0; k < 16; k++) {
            x.addDevice(0, 4 * k);
        }
        x.pull(15);
        x.pull(0);
        Check.thrown("a 17th one", Check.STATE, () -> x.addDevice(0, 0));
        Check.thrown("also a processor", Check.STATE, () -> x.addProcessor(0));
        Check.due("the pulled ones keep their numbers", x.kindOf(15), 'd');
    }

    /** "An agent is there for good": each call of an agent takes the last one, and none behind it. */
    private static void agentsByNumber() {
        BusHandler x = new BusHandler();
        for (int k = 0; k < 16; k++) {
            int next = k;
            Check.thrown("kindOf", Check.OUT, () -> x.kindOf(next));
            Check.thrown("setRank", Check.OUT, () -> x.setRank(next, 0));
            Check.thrown("moveWindow", Check.OUT, () -> x.moveWindow(next, 0));
            Check.thrown("listLength", Check.OUT, () -> x.listLength(next, false));
            Check.thrown("asksOf", Check.OUT, () -> x.asksOf(next));
            Check.thrown("writeAgent", Check.OUT, () -> x.writeAgent(next));
            x.addMemory(0, k, 1);
            Check.due("kindOf", x.kindOf(k), 'm');
            Check.due("setRank", x.setRank(k, 0), 0);
            Check.due("moveWindow", x.moveWindow(k, k), k);
            Check.due("listLength", x.listLength(k, false), 0);
            Check.due("asksOf", x.asksOf(k), 0);
            Check.due("writeAgent", x.writeAgent(k), k < 10 ? 13 : 14);
        }
    }

    // ---- sizes of windows

    /** "A memory has a window of as many addresses as it has cells", 1 to 128. */
    private static void sizesOfAMemory() {
        for (int size : new int[] {1, 2, 127, 128}) {
            BusHandler x = new BusHandler();
            Check.due("a memory", x.addMemory(0, 300, size), 0);
            windowIs(x, 0, 300, size);
            Check.due("the last cell", x.cellAt(0, size - 1), 0);
            Check.thrown("no cell behind it", Check.OUT, () -> x.cellAt(0, size));
        }
        BusHandler y = new BusHandler();
        Check.thrown("no cell", Check.ARGUMENT, () -> y.addMemory(0, 300, 0));
        Check.thrown("129 cells", Check.ARGUMENT, () -> y.addMemory(0, 300, 129));
        Check.due("neither is there", y.targetOf(0, 300), -1);
    }

    /** "A bridge one of a size on its bus", 1 to 1024. */
    private static void sizesOfABridge() {
        for (int size : new int[] {1, 2, 129, 723}) {
            BusHandler x = new BusHandler();
            Check.due("a bridge", x.addBridge(0, 300, size), 0);
            windowIs(x, 0, 300, size);
        }
        BusHandler y = new BusHandler();
        Check.thrown("1025 addresses", Check.ARGUMENT, () -> y.addBridge(0, 0, 1025));
        Check.thrown("no address", Check.ARGUMENT, () -> y.addBridge(0, 0, 0));
        Check.due("1024 addresses", y.addBridge(0, 0, 1024), 0);
        Check.due("the first one", y.targetOf(0, 0), 0);
        Check.due("the last one", y.targetOf(0, 1023), 0);
        Check.due("from below all of them are nobody's", y.targetOf(1, 1023), -1);
    }

    /** "A device one of 4, for its registers 0 to 3." */
    private static void fourAddressesOfADevice() {
        BusHandler x = new BusHandler();
        x.addDevice(0, 300);
        x.addProcessor(0);
        windowIs(x, 0, 300, 4);
        x.addWrite(1, 299, 5);
        x.addWrite(1, 304, 5);
        x.run(3);
        Check.due("writes beside the registers are lost", x.lost(), 2);
        x.addWrite(1, 300, 5);
        x.addWrite(1, 303, 0);
        x.run(2);
        Check.due("the register 0", x.register(0, 0), 5);
        x.run(1);
        Check.due("the register 3", x.register(0, 3), 0);
        Check.due("no more are lost", x.lost(), 2);
    }

    /** "A router one of 8, for the vectors 0 to 7." */
    private static void eightAddressesOfARouter() {
        BusHandler x = new BusHandler();
        x.addRouter(0, 300);
        x.addProcessor(0);
        windowIs(x, 0, 300, 8);
        x.addWrite(1, 299, 5);
        x.addWrite(1, 308, 5);
        x.run(3);
        Check.due("writes beside the vectors are lost", x.lost(), 2);
        for (int vector = 0; vector < 8; vector++) {
            x.addWrite(1, 300 + vector, 0);
        }
        x.run(9);
        for (int vector = 0; vector < 8; vector++) {
            Check.due("each vector by its address", x.pending(vector), 1);
        }
    }

    private static void windowIs(BusHandler x, int agent, int base, int size) {
        Check.due("ahead of the window", x.targetOf(0, base - 1), -1);
        Check.due("its first address", x.targetOf(0, base), agent);
        Check.due("its last address", x.targetOf(0, base + size - 1), agent);
        Check.due("behind the window", x.targetOf(0, base + size), -1);
    }

    // ---- where windows may lie

    /** "A window lies in the addresses from 0 to 1023." */
    private static void windowsWithinTheAddresses() {
        for (char kind : new char[] {'m', 'd', 'r', 'b'}) {
            for (int size : new int[] {1, 10, 128}) {
                int last = 1024 - sizeOf(kind, size);
                BusHandler x = new BusHandler();
                for (int base : new int[] {-1, last + 1, 1024, Integer.MIN_VALUE, Integer.MAX_VALUE}) {
                    Check.thrown("the base " + base, Check.ARGUMENT, () -> add(x, kind, 0, base, size));
                }
                Check.due("the last base", add(x, kind, 0, last, size), 0);
                Check.due("holds the last address", x.targetOf(0, 1023), 0);
                BusHandler y = new BusHandler();
                Check.due("the first base", add(y, kind, 0, 0, size), 0);
                Check.due("holds the first address", y.targetOf(0, 0), 0);
            }
        }
    }

    private static void windowsMovedWithinTheAddresses() {
        for (char kind : new char[] {'m', 'd', 'r', 'b'}) {
            int last = 1024 - sizeOf(kind, 10);
            BusHandler x = new BusHandler();
            add(x, kind, 0, 300, 10);
            for (int base : new int[] {-1, last + 1, 1024, Integer.MIN_VALUE, Integer.MAX_VALUE}) {
                Check.thrown("to " + base, Check.ARGUMENT, () -> x.moveWindow(0, base));
            }
            Check.due("to the last base", x.moveWindow(0, last), 300);
            Check.due("the last address", x.targetOf(0, 1023), 0);
            Check.due("not one more", x.targetOf(0, last - 1), -1);
            Check.due("to the first base", x.moveWindow(0, 0), last);
            Check.due("the first address", x.targetOf(0, 0), 0);
            Check.due("the last address is free", x.targetOf(0, 1023), -1);
        }
    }

    /** "No two windows overlap": they may touch. */
    private static void windowsSideBySide() {
        for (char kind : new char[] {'m', 'd', 'r', 'b'}) {
            int size = sizeOf(kind, 10);
            BusHandler x = new BusHandler();
            x.addMemory(0, 300, 20);
            Check.due("just ahead", add(x, kind, 0, 300 - size, 10), 1);
            Check.due("its last address", x.targetOf(0, 299), 1);
            Check.due("the one behind it", x.targetOf(0, 300), 0);
            BusHandler y = new BusHandler();
            y.addBridge(0, 300, 20);
            Check.due("just behind", add(y, kind, 0, 320, 10), 1);
            Check.due("its first address", y.targetOf(0, 320), 1);
            Check.due("the one ahead of it", y.targetOf(0, 319), 0);
        }
    }

    private static void windowsThatOverlap() {
        for (char first : new char[] {'m', 'd', 'r', 'b'}) {
            for (char second : new char[] {'m', 'd', 'b'}) {
                int size = sizeOf(second, 3);
                BusHandler x = new BusHandler();
                add(x, first, 0, 300, 20);
                int last = 299 + sizeOf(first, 20);
                Check.thrown("by one at the front", Check.ARGUMENT, () -> add(x, second, 0, 301 - size, 3));
                Check.thrown("by one at the end", Check.ARGUMENT, () -> add(x, second, 0, last, 3));
                Check.thrown("at the same base", Check.ARGUMENT, () -> add(x, second, 0, 300, 3));
                Check.due("nothing was added", x.addProcessor(0), 1);
            }
        }
        BusHandler y = new BusHandler();
        y.addMemory(0, 300, 10);
        Check.thrown("the same window", Check.ARGUMENT, () -> y.addMemory(0, 300, 10));
        Check.thrown("one inside", Check.ARGUMENT, () -> y.addMemory(0, 305, 1));
        Check.thrown("one around", Check.ARGUMENT, () -> y.addMemory(0, 299, 12));
        Check.thrown("one of all addresses", Check.ARGUMENT, () -> y.addBridge(0, 0, 1024));
    }

    private static void windowsMovedSideBySide() {
        BusHandler x = new BusHandler();
        x.addMemory(0, 300, 10);
        x.addDevice(0, 400);
        x.addRouter(0, 500);
        x.addBridge(0, 600, 10);
        Check.thrown("overlaps by one", Check.ARGUMENT, () -> x.moveWindow(1, 297));
        Check.thrown("overlaps by one", Check.ARGUMENT, () -> x.moveWindow(1, 309));
        Check.thrown("lies inside", Check.ARGUMENT, () -> x.moveWindow(1, 303));
        Check.due("still there", x.targetOf(0, 400), 1);
        Check.due("just ahead", x.moveWindow(1, 296), 400);
        Check.due("just behind", x.moveWindow(2, 310), 500);
        Check.thrown("overlaps by one", Check.ARGUMENT, () -> x.moveWindow(3, 317));
        Check.due("just behind both", x.moveWindow(3, 318), 600);
        Check.thrown("no place is left", Check.ARGUMENT, () -> x.moveWindow(0, 301));
        Check.due("where it is", x.moveWindow(0, 300), 300);
    }

    /** A window is not in its own way. */
    private static void movedOverItself() {
        for (char kind : new char[] {'m', 'd', 'r', 'b'}) {
            BusHandler x = new BusHandler();
            add(x, kind, 0, 300, 10);
            int size = sizeOf(kind, 10);
            Check.due("by one ahead", x.moveWindow(0, 299), 300);
            windowIs(x, 0, 299, size);
            Check.due("by two back", x.moveWindow(0, 301), 299);
            windowIs(x, 0, 301, size);
            Check.due("not at all", x.moveWindow(0, 301), 301);
        }
    }

    /** "No two windows of agents that are there, and whose bus it is": a bridge has its window on its bus alone. */
    private static void windowsOfAnotherBus() {
        BusHandler x = new BusHandler();
        x.addBridge(0, 300, 10);
        Check.due("the same addresses below", x.addMemory(1, 300, 10), 1);
        Check.due("a part of them", x.addBridge(1, 310, 10), 2);
        Check.due("the same ones below that", x.addMemory(2, 300, 20), 3);
        Check.thrown("not twice", Check.ARGUMENT, () -> x.addDevice(1, 309));
        Check.thrown("nor on the bus 0", Check.ARGUMENT, () -> x.addDevice(0, 309));
        Check.due("the bus 0 has others", x.addDevice(0, 310), 4);
        Check.due("moved over what is on other buses", x.moveWindow(3, 305), 300);
        Check.due("moved over what is below", x.moveWindow(4, 290), 310);
        Check.due("processors have no window", x.addProcessor(0), 5);
        Check.due("and are in no one's way", x.addDevice(0, 0), 6);
    }

    /** "Its window is in no one's way any more." */
    private static void pulledWindows() {
        BusHandler x = new BusHandler();
        x.addDevice(0, 300);
        x.addMemory(0, 400, 10);
        x.addDevice(0, 500);
        Check.thrown("in the way", Check.ARGUMENT, () -> x.moveWindow(1, 303));
        Check.thrown("in the way", Check.ARGUMENT, () -> x.addDevice(0, 503));
        x.pull(0);
        x.pull(2);
        Check.due("claimed by nobody", x.targetOf(0, 300), -1);
        Check.due("moved over it", x.moveWindow(1, 303), 400);
        Check.due("claimed by another one", x.targetOf(0, 303), 1);
        Check.due("one added over it", x.addDevice(0, 500), 3);
        Check.due("claimed by the new one", x.targetOf(0, 503), 3);
    }

    // ---- who claims an address

    /** "Otherwise, and on the bus 0, it is claimed by nobody." */
    private static void claimedByNobody() {
        BusHandler x = new BusHandler();
        x.addProcessor(0);
        x.addBridge(0, 300, 10);
        for (int address : new int[] {0, 299, 310, 1023}) {
            Check.due("in no window of the bus 0", x.targetOf(0, address), -1);
        }
        for (int address : new int[] {300, 309}) {
            Check.due("below, in the window of the bridge", x.targetOf(1, address), -1);
        }
        Check.thrown("no address -1", Check.ARGUMENT, () -> x.targetOf(1, -1));
        Check.thrown("no address 1024", Check.ARGUMENT, () -> x.targetOf(1, 1024));
    }

    /** "Taken up by the bridge below which the bus is, unless it is in the window of this bridge." */
    private static void takenUpByTheBridge() {
        BusHandler x = new BusHandler();
        x.addBridge(0, 300, 10);
        x.addMemory(1, 305, 10);
        for (int address : new int[] {0, 299, 315, 1023}) {
            Check.due("outside the window of the bridge", x.targetOf(1, address), 0);
        }
        for (int address : new int[] {300, 304}) {
            Check.due("inside it", x.targetOf(1, address), -1);
        }
        for (int address : new int[] {305, 309, 310, 314}) {
            Check.due("a window on the bus goes ahead", x.targetOf(1, address), 1);
        }
        x.moveWindow(0, 301);
        Check.due("the window is where it is now", x.targetOf(1, 300), 0);
        Check.due("its first address", x.targetOf(1, 301), -1);
    }

    private static void takenUpByTwoBridges() {
        BusHandler x = new BusHandler();
        x.addBridge(0, 300, 100);
        x.addBridge(1, 340, 20);
        Check.due("on the bus 1 the second bridge claims its window", x.targetOf(1, 340), 1);
        Check.due("up to its end", x.targetOf(1, 359), 1);
        Check.due("the rest of the first one's is nobody's", x.targetOf(1, 360), -1);
        Check.due("on the bus 2 the second one's is nobody's", x.targetOf(2, 359), -1);
        Check.due("but the rest is taken up", x.targetOf(2, 360), 1);
        Check.due("as all others", x.targetOf(2, 0), 1);
    }

    /** A device that moves 4 values to the addresses from 1022 on; its ring is at 1000. */
    private static BusHandler atTheEnd(int flags) {
        BusHandler x = new BusHandler();
        x.addMemory(0, 1000, 24);
        x.addDevice(0, 0);
        x.addProcessor(0);
        int[] cells = {1, 1022, 4, flags};
        for (int offset = 0; offset < cells.length; offset++) {
            x.put(0, offset, cells[offset]);
            x.load(1, 51 + offset);
        }
        x.put(0, 22, 61);
        x.put(0, 23, 62);
        x.addWrite(2, 1, 1000);
        x.addWrite(2, 2, 1);
        x.addWrite(2, 0, 1);
        return x;
    }

    /** "Also addresses beyond 1023, which devices can make, are in no window." */
    private static void writesBeyondTheAddresses() {
        BusHandler x = atTheEnd(0);
        x.run(30);
        Check.due("1022", x.cellAt(0, 22), 51);
        Check.due("1023", x.cellAt(0, 23), 52);
        Check.due("1024 and 1025 are lost", x.lost(), 2);
        Check.due("four were moved all the same", x.cellAt(0, 2), 4);
        Check.due("this is no error", x.errorsOf(1), 0);
    }

    private static void readsBeyondTheAddresses() {
        BusHandler x = atTheEnd(1);
        x.run(40);
        Check.due("1022 and 1023 were received", x.received(1), 2);
        Check.due("1022", x.receivedAt(1, 0), 61);
        Check.due("1023", x.receivedAt(1, 1), 62);
        Check.due("1024 is an error", x.errorsOf(1), 1);
        Check.due("nobody", x.lastError(1), 'n');
        Check.due("two were moved", x.cellAt(0, 2), 2);
    }

    /** Below a bridge of all addresses, 1023 is nobody's there, but 1024 is taken up. */
    private static void beyondTheAddressesFromBelow() {
        BusHandler x = new BusHandler();
        x.addBridge(0, 0, 1024);
        x.addMemory(1, 1000, 8);
        x.addDevice(1, 0);
        x.addProcessor(1);
        int[] cells = {1, 1023, 2, 0};
        for (int offset = 0; offset < cells.length; offset++) {
            x.put(1, offset, cells[offset]);
            x.load(2, 51 + offset);
        }
        x.addWrite(3, 1, 1000);
        x.addWrite(3, 2, 1);
        x.addWrite(3, 0, 1);
        x.run(13);
        Check.due("the write to 1023 is lost below", x.lost(), 1);
        Check.due("it was not taken up", x.listLength(0, false), 0);
        x.run(1);
        Check.due("the write to 1024 is taken up", Check.lineOf(x, 0), "0 bridge bus0 w1024");
        x.run(1);
        Check.due("and is lost above", x.lost(), 2);
        Check.due("as the only message there", x.sentOn(0), 1);
    }

    // ---- ranks and manners

    /** "The rank, 0 to 9"; "0 at first"; "otherwise, as at first, by turns"; "or strict, as at first". */
    private static void ranksAndManners() {
        for (char kind : KINDS) {
            BusHandler x = new BusHandler();
            add(x, kind, 0, 300, 10);
            int before = 0;
            for (int rank = 0; rank <= 9; rank++) {
                Check.due("the rank before", x.setRank(0, rank), before);
                before = rank;
            }
            Check.thrown("rank 10", Check.ARGUMENT, () -> x.setRank(0, 10));
            Check.thrown("rank -1", Check.ARGUMENT, () -> x.setRank(0, -1));
            Check.due("9 stays", x.setRank(0, 0), 9);
            if (kind != 'b') {
                Check.thrown("no bridge is made loose", Check.ARGUMENT, () -> x.setLoose(0, true));
            }
        }
        BusHandler y = new BusHandler();
        for (int b = 0; b < 3; b++) {
            y.addBridge(b, 300, 10);
            Check.due("strict at first", y.setLoose(b, true), false);
        }
        Check.due("each one on its own", y.setLoose(1, false), true);
        Check.due("another one stays loose", y.setLoose(2, false), true);
        for (int bus = 0; bus < 4; bus++) {
            Check.due("by turns at first", y.setArbiter(bus, true), false);
        }
        Check.due("by ranks", y.setArbiter(3, false), true);
        Check.due("by turns again", y.setArbiter(3, true), false);
    }
}
