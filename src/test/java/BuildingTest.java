/** Promises 1 to 13: a new object, how agents are added and set, and who claims an address. */
public final class BuildingTest {
    public static void main(String[] args) {
        newObject();
        addMemory();
        addProcessor();
        addDevice();
        addRouter();
        addBridge();
        sixteenAgents();
        windowsAndBuses();
        moveWindow();
        setRank();
        setArbiter();
        setLoose();
        kindOf();
        targetOf();
        Check.end();
    }

    private static void newObject() {
        BusHandler x = new BusHandler();
        Check.due("buses of a new board", x.buses(), 1);
        Check.due("cycles of a new board", x.cycles(), 0);
        Check.thrown("a new board has no agent: kindOf(0)", Check.OUT, () -> x.kindOf(0));
        Check.due("a new board claims nothing", x.targetOf(0, 0), -1);
        Check.due("a board without agents runs", x.run(3), 0);
    }

    private static void addMemory() {
        BusHandler x = new BusHandler();
        Check.thrown("addMemory(-1, 0, 1)", Check.OUT, () -> x.addMemory(-1, 0, 1));
        Check.thrown("addMemory(1, 0, 1)", Check.OUT, () -> x.addMemory(1, 0, 1));
        Check.thrown("the bus comes first", Check.OUT, () -> x.addMemory(1, -1, 0));
        Check.thrown("size 0", Check.ARGUMENT, () -> x.addMemory(0, 0, 0));
        Check.thrown("size 129", Check.ARGUMENT, () -> x.addMemory(0, 0, 129));
        Check.thrown("size below", Check.ARGUMENT, () -> x.addMemory(0, 0, Integer.MIN_VALUE));
        Check.thrown("base -1", Check.ARGUMENT, () -> x.addMemory(0, -1, 5));
        Check.thrown("beyond 1023", Check.ARGUMENT, () -> x.addMemory(0, 1020, 5));
        Check.thrown("far beyond", Check.ARGUMENT, () -> x.addMemory(0, Integer.MAX_VALUE, 5));
        Check.due("up to 1023", x.addMemory(0, 1019, 5), 0);
        Check.due("128 cells", x.addMemory(0, 0, 128), 1);
        Check.due("1 cell", x.addMemory(0, 128, 1), 2);
        Check.thrown("overlaps its first address", Check.ARGUMENT, () -> x.addMemory(0, 127, 1));
        Check.thrown("overlaps inside", Check.ARGUMENT, () -> x.addMemory(0, 60, 4));
        Check.thrown("overlaps around", Check.ARGUMENT, () -> x.addMemory(0, 127, 10));
        Check.due("a cell is 0 at first", x.cellAt(1, 127), 0);
        Check.thrown("cells end", Check.OUT, () -> x.cellAt(1, 128));
        Check.due("the next agent", x.addMemory(0, 129, 10), 3);
    }

    private static void addProcessor() {
        BusHandler x = new BusHandler();
        Check.thrown("addProcessor(-1)", Check.OUT, () -> x.addProcessor(-1));
        Check.thrown("addProcessor(1)", Check.OUT, () -> x.addProcessor(1));
        Check.due("first processor", x.addProcessor(0), 0);
        Check.due("second processor", x.addProcessor(0), 1);
        Check.due("its program is empty", x.addRead(1, 0), 1);
        Check.due("it has done nothing", x.stepOf(1), 0);
    }

    private static void addDevice() {
        BusHandler x = new BusHandler();
        Check.thrown("addDevice(1, 0)", Check.OUT, () -> x.addDevice(1, 0));
        Check.thrown("base -1", Check.ARGUMENT, () -> x.addDevice(0, -1));
        Check.thrown("base 1021", Check.ARGUMENT, () -> x.addDevice(0, 1021));
        Check.due("base 1020", x.addDevice(0, 1020), 0);
        Check.thrown("overlaps", Check.ARGUMENT, () -> x.addDevice(0, 1017));
        Check.due("beside", x.addDevice(0, 1016), 1);
        Check.due("it is awake", x.register(0, 3), 1);
        Check.due("it is idle", x.stateOf(0), 'i');
        Check.due("4 addresses", x.targetOf(0, 1023), 0);
    }

    private static void addRouter() {
        BusHandler x = new BusHandler();
        Check.thrown("addRouter(1, 0)", Check.OUT, () -> x.addRouter(1, 0));
        Check.thrown("base -1", Check.ARGUMENT, () -> x.addRouter(0, -1));
        Check.thrown("base 1017", Check.ARGUMENT, () -> x.addRouter(0, 1017));
        Check.due("base 1016", x.addRouter(0, 1016), 0);
        Check.due("8 addresses", x.targetOf(0, 1023), 0);
        Check.thrown("a second router", Check.STATE, () -> x.addRouter(0, 0));
        Check.thrown("the window comes first", Check.ARGUMENT, () -> x.addRouter(0, 1009));
        Check.due("nothing was added", x.addProcessor(0), 1);
    }

    private static void addBridge() {
        BusHandler x = new BusHandler();
        Check.thrown("addBridge(1, 0, 1)", Check.OUT, () -> x.addBridge(1, 0, 1));
        Check.thrown("size 0", Check.ARGUMENT, () -> x.addBridge(0, 0, 0));
        Check.thrown("size 1025", Check.ARGUMENT, () -> x.addBridge(0, 0, 1025));
        Check.thrown("beyond 1023", Check.ARGUMENT, () -> x.addBridge(0, 1, 1024));
        Check.due("no bus was added", x.buses(), 1);
        Check.due("the whole of a bus", x.addBridge(0, 0, 1024), 0);
        Check.due("a bus came with it", x.buses(), 2);
        Check.thrown("no place is left", Check.ARGUMENT, () -> x.addBridge(0, 1023, 1));
        Check.due("a bridge below", x.addBridge(1, 0, 1), 1);
        Check.due("one more", x.addBridge(2, 5, 10), 2);
        Check.due("four buses", x.buses(), 4);
        Check.thrown("a fifth bus", Check.STATE, () -> x.addBridge(3, 0, 1));
        Check.thrown("the window comes first", Check.ARGUMENT, () -> x.addBridge(2, 5, 1));
        Check.due("the last bus is there", x.addProcessor(3), 3);
    }

    private static void sixteenAgents() {
        BusHandler x = new BusHandler();
        x.addRouter(0, 1000);
        for (int k = 1; k < 16; k++) {
            Check.due("agent", x.addMemory(0, 8 * k, 8), k);
        }
        Check.thrown("17th memory", Check.STATE, () -> x.addMemory(0, 500, 8));
        Check.thrown("17th memory, bad window", Check.ARGUMENT, () -> x.addMemory(0, 8, 8));
        Check.thrown("17th processor", Check.STATE, () -> x.addProcessor(0));
        Check.thrown("17th device", Check.STATE, () -> x.addDevice(0, 500));
        Check.thrown("17th router", Check.STATE, () -> x.addRouter(0, 500));
        Check.thrown("17th bridge", Check.STATE, () -> x.addBridge(0, 500, 8));
        Check.thrown("17th on no bus", Check.OUT, () -> x.addProcessor(1));
        Check.due("no bus was added", x.buses(), 1);
        Check.due("no line is raised", x.raisedOn(0), 0);
        BusHandler y = new BusHandler();
        for (int k = 0; k < 16; k++) {
            y.addProcessor(0);
        }
        Check.thrown("17th agent, no router yet", Check.STATE, () -> y.addRouter(0, 500));
        Check.due("it runs", y.run(2), 0);
    }

    private static void windowsAndBuses() {
        BusHandler x = new BusHandler();
        x.addBridge(0, 100, 50);
        Check.due("a window counts only on its bus", x.addMemory(1, 100, 50), 1);
        Check.thrown("a bridge has a window above", Check.ARGUMENT, () -> x.addDevice(0, 149));
        x.addDevice(0, 200);
        x.pull(2);
        Check.due("a pulled device is not in the way", x.addMemory(0, 198, 4), 3);
    }

    private static void moveWindow() {
        BusHandler x = new BusHandler();
        x.addMemory(0, 0, 10);
        x.addDevice(0, 20);
        x.addProcessor(0);
        x.addBridge(0, 500, 100);
        x.addDevice(1, 0);
        Check.thrown("moveWindow(-1, 0)", Check.OUT, () -> x.moveWindow(-1, 0));
        Check.thrown("moveWindow(5, 0)", Check.OUT, () -> x.moveWindow(5, 0));
        Check.thrown("a processor has no window", Check.ARGUMENT, () -> x.moveWindow(2, 50));
        Check.thrown("below 0", Check.ARGUMENT, () -> x.moveWindow(0, -1));
        Check.thrown("beyond 1023", Check.ARGUMENT, () -> x.moveWindow(0, 1015));
        Check.thrown("far beyond", Check.ARGUMENT, () -> x.moveWindow(0, Integer.MAX_VALUE));
        Check.thrown("overlaps the device", Check.ARGUMENT, () -> x.moveWindow(0, 11));
        Check.due("over its own window", x.moveWindow(0, 10), 0);
        Check.due("the size stays", x.targetOf(0, 19), 0);
        Check.due("the place before is free", x.targetOf(0, 9), -1);
        Check.due("to the end", x.moveWindow(0, 1014), 10);
        Check.due("on another bus nothing is in the way", x.moveWindow(4, 500), 0);
        Check.due("a bridge moves", x.moveWindow(3, 24), 500);
        Check.due("its window leads down", x.targetOf(0, 123), 3);
        x.pull(1);
        Check.thrown("a pulled device", Check.ARGUMENT, () -> x.moveWindow(1, 300));
        Check.due("where it was", x.moveWindow(0, 14), 1014);
    }

    private static void setRank() {
        BusHandler x = new BusHandler();
        x.addProcessor(0);
        Check.thrown("setRank(1, 0)", Check.OUT, () -> x.setRank(1, 0));
        Check.thrown("setRank(-1, 10)", Check.OUT, () -> x.setRank(-1, 10));
        Check.thrown("rank -1", Check.ARGUMENT, () -> x.setRank(0, -1));
        Check.thrown("rank 10", Check.ARGUMENT, () -> x.setRank(0, 10));
        Check.due("0 at first", x.setRank(0, 9), 0);
        Check.due("9 before", x.setRank(0, 0), 9);
    }

    private static void setArbiter() {
        BusHandler x = new BusHandler();
        Check.thrown("setArbiter(-1, true)", Check.OUT, () -> x.setArbiter(-1, true));
        Check.thrown("setArbiter(1, true)", Check.OUT, () -> x.setArbiter(1, true));
        Check.due("by turns at first", x.setArbiter(0, true), false);
        Check.due("by ranks before", x.setArbiter(0, true), true);
        x.addBridge(0, 0, 10);
        Check.due("each bus has its own", x.setArbiter(1, false), false);
        Check.due("still by ranks", x.setArbiter(0, false), true);
    }

    private static void setLoose() {
        BusHandler x = new BusHandler();
        x.addBridge(0, 0, 10);
        x.addProcessor(0);
        Check.thrown("setLoose(2, true)", Check.OUT, () -> x.setLoose(2, true));
        Check.thrown("no bridge", Check.ARGUMENT, () -> x.setLoose(1, true));
        Check.due("strict at first", x.setLoose(0, true), false);
        Check.due("loose before", x.setLoose(0, false), true);
        Check.due("strict again", x.setLoose(0, false), false);
    }

    private static void kindOf() {
        BusHandler x = new BusHandler();
        x.addMemory(0, 0, 8);
        x.addProcessor(0);
        x.addDevice(0, 8);
        x.addRouter(0, 16);
        x.addBridge(0, 24, 8);
        StringBuilder kinds = new StringBuilder();
        for (int k = 0; k < 5; k++) {
            kinds.append(x.kindOf(k));
        }
        Check.due("kinds", kinds.toString(), "mpdrb");
        Check.thrown("kindOf(5)", Check.OUT, () -> x.kindOf(5));
        Check.thrown("kindOf(-1)", Check.OUT, () -> x.kindOf(-1));
        x.pull(2);
        Check.due("a pulled device keeps its kind", x.kindOf(2), 'd');
    }

    private static void targetOf() {
        BusHandler x = new BusHandler();
        x.addBridge(0, 200, 100);
        x.addBridge(1, 250, 10);
        x.addMemory(2, 255, 10);
        x.addMemory(0, 0, 16);
        Check.thrown("targetOf(3, 0)", Check.OUT, () -> x.targetOf(3, 0));
        Check.thrown("targetOf(-1, 2000)", Check.OUT, () -> x.targetOf(-1, 2000));
        Check.thrown("address -1", Check.ARGUMENT, () -> x.targetOf(0, -1));
        Check.thrown("address 1024", Check.ARGUMENT, () -> x.targetOf(0, 1024));
        Check.due("address 1023 on the bus 0", x.targetOf(0, 1023), -1);
        Check.due("the last cell", x.targetOf(0, 15), 3);
        Check.due("behind the last cell", x.targetOf(0, 16), -1);
        Check.due("the window of a bridge", x.targetOf(0, 200), 0);
        Check.due("its last address", x.targetOf(0, 299), 0);
        Check.due("from below, in its window", x.targetOf(1, 299), -1);
        Check.due("from below, outside", x.targetOf(1, 300), 0);
        Check.due("the bridge on the bus 1", x.targetOf(1, 259), 1);
        Check.due("on the bus 2 in the window", x.targetOf(2, 254), -1);
        Check.due("a memory goes ahead of the bridge", x.targetOf(2, 262), 2);
        Check.due("on the bus 2 outside", x.targetOf(2, 265), 1);
    }
}
