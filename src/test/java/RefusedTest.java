import java.util.function.Supplier;

/**
 * "A method that throws an exception changes nothing. If several exceptions apply, the one that is documented first is
 * thrown." Each refused call is made on one of two boards of the same making; from then on both must tell the same.
 */
public final class RefusedTest {
    /** Makes a board, always in the same way. */
    interface Maker {
        BusHandler make();
    }

    /** The call that is refused. */
    interface Refused {
        void on(BusHandler x);
    }

    private static final int MAX_CALLS = 512;
    private static final int MAKING = 90;
    private static final int[] NO_AGENTS = {-1, 8, 16, Integer.MIN_VALUE, Integer.MAX_VALUE};
    private static final int[] NO_BUSES = {-1, 2, 4, Integer.MIN_VALUE, Integer.MAX_VALUE};
    private static final int[] NO_ADDRESSES = {-1, 1024, Integer.MIN_VALUE, Integer.MAX_VALUE};
    private static final int[] NO_VALUES = {-1, 10000, Integer.MIN_VALUE, Integer.MAX_VALUE};
    private static final int[] NO_VECTORS = {-1, 8, Integer.MIN_VALUE, Integer.MAX_VALUE};

    private static final int MEMORY = 0;
    private static final int PROCESSOR = 1;
    private static final int DEVICE = 2;
    private static final int ROUTER = 3;
    private static final int BRIDGE = 4;
    private static final int PULLED = 7;

    private static int calls;

    public static void main(String[] args) {
        boardsTellTheSame();
        addMemory();
        addProcessor();
        addDevice();
        addRouter();
        addBridge();
        seventeenthAgent();
        fifthBus();
        moveWindow();
        setRank();
        setArbiter();
        setLoose();
        kindOf();
        targetOf();
        addWrite();
        addRead();
        addWait();
        seventeenthStep();
        looksAtProcessors();
        isCached();
        load();
        setMessage();
        setLine();
        looksAtDevices();
        pull();
        put();
        looksAtCells();
        setMask();
        setVectorRank();
        pendingAndRaisedOn();
        run();
        runBeyondTheEnd();
        listsAndMessages();
        looksAtAgents();
        looksAtBuses();
        ringAt();
        figuresWithoutCycles();
        writeAgent();
        lineAt();
        Check.end();
    }

    // ---- boards

    /** All kinds of agents in the midst of their work, and settings that are not those at first. */
    private static BusHandler board() {
        BusHandler x = new BusHandler();
        x.addMemory(0, 0, 16);
        x.addProcessor(0);
        x.addDevice(0, 100);
        x.addRouter(0, 160);
        x.addBridge(0, 200, 100);
        x.addMemory(1, 200, 2);
        x.addProcessor(1);
        x.addDevice(1, 220);
        x.pull(PULLED);
        int[] cells = {70, 71, 72, 73, 74, 75, 76, 77, 1, 0, 2, 1};
        for (int offset = 0; offset < cells.length; offset++) {
            x.put(MEMORY, offset, cells[offset]);
        }
        x.spoil(MEMORY, 5);
        x.load(DEVICE, 5);
        x.load(DEVICE, 6);
        x.setLine(DEVICE, 3);
        x.setMessage(PULLED, 170);
        x.addWrite(PROCESSOR, 101, 8);
        x.addWrite(PROCESSOR, 102, 2);
        x.addWrite(PROCESSOR, 100, 2);
        x.addRead(PROCESSOR, 0);
        x.addWait(PROCESSOR, 3);
        x.addWrite(PROCESSOR, 250, 7);
        x.addRead(6, 201);
        x.addWrite(6, 163, 1);
        x.addRead(6, 900);
        x.setRank(PROCESSOR, 3);
        x.setArbiter(1, true);
        x.setLoose(BRIDGE, true);
        x.setVectorRank(3, 4);
        x.setMask(5, true);
        x.run(13);
        x.writeAgent(DEVICE);
        return x;
    }

    private static BusHandler fullBoard() {
        BusHandler x = board();
        for (int k = 8; k < 16; k++) {
            x.addProcessor(k % 2);
        }
        return x;
    }

    private static BusHandler boardWithFourBuses() {
        BusHandler x = board();
        x.addBridge(0, 300, 10);
        x.addBridge(1, 500, 10);
        return x;
    }

    private static BusHandler boardWithFullProgram() {
        BusHandler x = board();
        for (int n = 6; n < 16; n++) {
            x.addRead(PROCESSOR, 0);
        }
        return x;
    }

    private static BusHandler boardWithFullData() {
        BusHandler x = board();
        for (int n = 2; n < 40; n++) {
            x.load(DEVICE, n);
        }
        return x;
    }

    private static BusHandler oldBoard() {
        BusHandler x = board();
        for (int n = 0; n < 24; n++) {
            x.run(200);
        }
        x.run(187);
        return x;
    }

    // ---- what a board tells

    private static void note(StringBuilder text, Supplier<Object> call) {
        calls++;
        try {
            text.append(call.get());
        } catch (RuntimeException e) {
            text.append(e.getClass().getSimpleName());
        }
        text.append(' ');
    }

    /** All that can be seen, then all that the setting calls tell, then the same behind some cycles. */
    private static String told(BusHandler x) {
        StringBuilder text = new StringBuilder();
        calls = MAKING;
        for (int i = 0; i < 19; i++) {
            int index = i;
            note(text, () -> x.lineAt(index));
        }
        tellFigures(text, x);
        tellAgents(text, x);
        tellSettings(text, x);
        text.append(" | ");
        note(text, () -> x.run(13));
        tellFigures(text, x);
        tellAgents(text, x);
        Check.due("the calls of a board are at most 512", calls <= MAX_CALLS, true);
        return text.toString();
    }

    private static void tellFigures(StringBuilder text, BusHandler x) {
        note(text, x::buses);
        note(text, x::cycles);
        note(text, x::rung);
        note(text, x::lost);
        note(text, x::early);
        note(text, x::overtaken);
        note(text, x::ringLength);
        note(text, x::meanAsks);
        note(text, x::busiestShare);
        note(text, x::isConsistent);
        for (int b = 0; b < 2; b++) {
            int bus = b;
            note(text, () -> x.sentOn(bus));
        }
        for (int line = 0; line < 4; line++) {
            int at = line;
            note(text, () -> x.raisedOn(at));
        }
        for (int vector = 0; vector < 8; vector++) {
            int at = vector;
            note(text, () -> x.pending(at));
        }
    }

    private static void tellAgents(StringBuilder text, BusHandler x) {
        for (int k = 0; k < 8; k++) {
            int agent = k;
            note(text, () -> x.asksOf(agent));
            note(text, () -> x.listLength(agent, false));
            note(text, () -> x.messageAt(agent, false, 0));
        }
        note(text, () -> x.listLength(BRIDGE, true));
        note(text, () -> x.inbox(MEMORY));
        for (int offset = 0; offset < 16; offset += 2) {
            int at = offset;
            note(text, () -> x.cellAt(MEMORY, at));
            note(text, () -> x.cellAnew(MEMORY, at + 1));
        }
        for (int k = PROCESSOR; k < 8; k += 5) {
            int processor = k;
            note(text, () -> x.stepOf(processor));
            note(text, () -> x.readsOf(processor));
            note(text, () -> x.valueAt(processor, 0));
            note(text, () -> x.errorAt(processor, 0));
            note(text, () -> x.takenAt(processor, 0));
            note(text, () -> x.isCached(processor, 0));
            note(text, () -> x.isCached(processor, 201));
        }
        tellDevice(text, x, DEVICE);
        tellDevice(text, x, PULLED);
    }

    private static void tellDevice(StringBuilder text, BusHandler x, int device) {
        note(text, () -> x.stateOf(device));
        for (int i = 0; i < 4; i++) {
            int index = i;
            note(text, () -> x.register(device, index));
        }
        note(text, () -> x.ringIndex(device));
        note(text, () -> x.received(device));
        note(text, () -> x.receivedAt(device, 0));
        note(text, () -> x.blocksOf(device));
        note(text, () -> x.errorsOf(device));
        note(text, () -> x.lastError(device));
    }

    /** These calls change the board, but tell what was before; both boards are changed in the same way. */
    private static void tellSettings(StringBuilder text, BusHandler x) {
        for (int k = 0; k < 8; k++) {
            int agent = k;
            note(text, () -> x.kindOf(agent));
            note(text, () -> x.setRank(agent, agent));
            note(text, () -> x.moveWindow(agent, 600 + 20 * agent));
            note(text, () -> x.moveWindow(agent, 20 * agent));
        }
        for (int vector = 0; vector < 8; vector++) {
            int at = vector;
            note(text, () -> x.setMask(at, false));
            note(text, () -> x.setVectorRank(at, 8 - at));
        }
        note(text, () -> x.setArbiter(0, true));
        note(text, () -> x.setArbiter(1, false));
        note(text, () -> x.setLoose(BRIDGE, false));
        note(text, () -> x.spoil(MEMORY, 5));
        note(text, () -> x.spoil(MEMORY, 6));
        note(text, () -> x.put(MEMORY, 5, 44));
        note(text, () -> x.setLine(DEVICE, 1));
        note(text, () -> x.setMessage(PULLED, 161));
        note(text, () -> x.load(DEVICE, 9));
        note(text, () -> x.addRead(PROCESSOR, 5));
        note(text, () -> x.addWait(6, -1));
        for (int address = 0; address < 1024; address += 93) {
            int at = address;
            note(text, () -> x.targetOf(at % 2, at));
        }
        note(text, () -> x.addRouter(0, 1000));
        note(text, () -> x.addBridge(1, 1000, 10));
        note(text, () -> x.addProcessor(0));
    }

    // ---- how a refused call is looked at

    private static void refused(String what, Class<? extends RuntimeException> want, Maker maker, Refused call) {
        BusHandler board = maker.make();
        Check.thrown(what, want, () -> call.on(board));
        Check.due(what + ": nothing has changed", told(board), told(maker.make()));
    }

    private static void refused(String what, Class<? extends RuntimeException> want, Refused call) {
        refused(what, want, RefusedTest::board, call);
    }

    /** Two boards that differ must not tell the same, or the whole test would say nothing. */
    private static void boardsTellTheSame() {
        Check.due("boards of the same making", told(board()), told(board()));
        int differing = 0;
        Refused[] changes = {x -> x.setRank(DEVICE, 1), x -> x.setMask(1, true), x -> x.put(MEMORY, 12, 1),
            x -> x.spoil(MEMORY, 6), x -> x.load(DEVICE, 0), x -> x.run(1), x -> x.addProcessor(1),
            x -> x.setVectorRank(7, 1), x -> x.setArbiter(0, true), x -> x.setLoose(BRIDGE, false),
            x -> x.moveWindow(BRIDGE, 201), x -> x.writeAgent(ROUTER), x -> x.setLine(DEVICE, 2),
            x -> x.setMessage(DEVICE, 0), x -> x.addWrite(PROCESSOR, 0, 0), x -> x.addRead(6, 0),
            x -> x.pull(DEVICE), x -> x.addBridge(0, 800, 4), x -> x.addDevice(0, 900)};
        for (Refused change : changes) {
            BusHandler x = board();
            change.on(x);
            differing += told(x).equals(told(board())) ? 0 : 1;
        }
        Check.due("boards that differ tell so", differing, changes.length);
    }

    // ---- building

    private static void addMemory() {
        for (int bus : NO_BUSES) {
            refused("addMemory(" + bus + ", 300, 1)", Check.OUT, x -> x.addMemory(bus, 300, 1));
            refused("addMemory(" + bus + ", -1, 0)", Check.OUT, x -> x.addMemory(bus, -1, 0));
        }
        for (int size : new int[] {0, 129, -1, Integer.MIN_VALUE, Integer.MAX_VALUE}) {
            refused("addMemory(0, 300, " + size + ")", Check.ARGUMENT, x -> x.addMemory(0, 300, size));
        }
        for (int base : new int[] {-1, 1024, Integer.MIN_VALUE, Integer.MAX_VALUE}) {
            refused("addMemory(0, " + base + ", 1)", Check.ARGUMENT, x -> x.addMemory(0, base, 1));
        }
        refused("addMemory(0, 897, 128)", Check.ARGUMENT, x -> x.addMemory(0, 897, 128));
        refused("addMemory(0, 15, 1)", Check.ARGUMENT, x -> x.addMemory(0, 15, 1));
        refused("addMemory(0, 96, 5)", Check.ARGUMENT, x -> x.addMemory(0, 96, 5));
        refused("addMemory(0, 299, 1)", Check.ARGUMENT, x -> x.addMemory(0, 299, 1));
        refused("addMemory(1, 199, 2)", Check.ARGUMENT, x -> x.addMemory(1, 199, 2));
    }

    private static void addProcessor() {
        for (int bus : NO_BUSES) {
            refused("addProcessor(" + bus + ")", Check.OUT, x -> x.addProcessor(bus));
            refused("addProcessor(" + bus + ") as 17th", Check.OUT, RefusedTest::fullBoard, x -> x.addProcessor(bus));
        }
    }

    private static void addDevice() {
        for (int bus : NO_BUSES) {
            refused("addDevice(" + bus + ", 300)", Check.OUT, x -> x.addDevice(bus, 300));
            refused("addDevice(" + bus + ", -1)", Check.OUT, x -> x.addDevice(bus, -1));
        }
        for (int base : new int[] {-1, 1021, Integer.MIN_VALUE, Integer.MAX_VALUE, 13, 15, 97, 103, 197, 299}) {
            refused("addDevice(0, " + base + ")", Check.ARGUMENT, x -> x.addDevice(0, base));
        }
    }

    private static void addRouter() {
        for (int bus : NO_BUSES) {
            refused("addRouter(" + bus + ", 300)", Check.OUT, x -> x.addRouter(bus, 300));
            refused("addRouter(" + bus + ", -1)", Check.OUT, x -> x.addRouter(bus, -1));
        }
        for (int base : new int[] {-1, 1017, Integer.MIN_VALUE, Integer.MAX_VALUE, 93, 103, 153, 160, 167, 299}) {
            refused("addRouter(0, " + base + ")", Check.ARGUMENT, x -> x.addRouter(0, base));
        }
        refused("a second router", Check.STATE, x -> x.addRouter(0, 300));
        refused("a second router below", Check.STATE, x -> x.addRouter(1, 300));
    }

    private static void addBridge() {
        for (int bus : NO_BUSES) {
            refused("addBridge(" + bus + ", 300, 1)", Check.OUT, x -> x.addBridge(bus, 300, 1));
            refused("addBridge(" + bus + ", -1, 0)", Check.OUT, x -> x.addBridge(bus, -1, 0));
        }
        for (int size : new int[] {0, 1025, -1, Integer.MIN_VALUE, Integer.MAX_VALUE}) {
            refused("addBridge(0, 300, " + size + ")", Check.ARGUMENT, x -> x.addBridge(0, 300, size));
        }
        for (int base : new int[] {-1, 1024, Integer.MIN_VALUE, Integer.MAX_VALUE, 0, 15, 167, 299}) {
            refused("addBridge(0, " + base + ", 1)", Check.ARGUMENT, x -> x.addBridge(0, base, 1));
        }
        refused("addBridge(1, 1, 1024)", Check.ARGUMENT, x -> x.addBridge(1, 1, 1024));
        refused("addBridge(0, 300, 725)", Check.ARGUMENT, x -> x.addBridge(0, 300, 725));
    }

    private static void seventeenthAgent() {
        Maker full = RefusedTest::fullBoard;
        refused("17th: a memory", Check.STATE, full, x -> x.addMemory(0, 300, 1));
        refused("17th: a processor", Check.STATE, full, x -> x.addProcessor(1));
        refused("17th: a device", Check.STATE, full, x -> x.addDevice(1, 300));
        refused("17th: a second router", Check.STATE, full, x -> x.addRouter(0, 300));
        refused("17th: a bridge", Check.STATE, full, x -> x.addBridge(0, 300, 1));
        refused("17th: a memory, wrong size", Check.ARGUMENT, full, x -> x.addMemory(0, 300, 129));
        refused("17th: a memory, wrong window", Check.ARGUMENT, full, x -> x.addMemory(0, 15, 1));
        refused("17th: a device, wrong window", Check.ARGUMENT, full, x -> x.addDevice(0, 103));
        refused("17th: a router, wrong window", Check.ARGUMENT, full, x -> x.addRouter(0, 167));
        refused("17th: a bridge, wrong size", Check.ARGUMENT, full, x -> x.addBridge(0, 300, 0));
        refused("17th: a bridge, wrong window", Check.ARGUMENT, full, x -> x.addBridge(0, 299, 1));
        refused("17th: a memory, wrong bus", Check.OUT, full, x -> x.addMemory(2, 15, 1));
        refused("17th: a device, wrong bus", Check.OUT, full, x -> x.addDevice(-1, 103));
        refused("17th: a router, wrong bus", Check.OUT, full, x -> x.addRouter(2, 167));
        refused("17th: a bridge, wrong bus", Check.OUT, full, x -> x.addBridge(2, 300, 0));
    }

    private static void fifthBus() {
        Maker four = RefusedTest::boardWithFourBuses;
        refused("5th bus", Check.STATE, four, x -> x.addBridge(3, 0, 1));
        refused("5th bus below the bus 0", Check.STATE, four, x -> x.addBridge(0, 700, 1));
        refused("5th bus, wrong size", Check.ARGUMENT, four, x -> x.addBridge(3, 0, 1025));
        refused("5th bus, wrong window", Check.ARGUMENT, four, x -> x.addBridge(0, 309, 1));
        refused("5th bus below no bus", Check.OUT, four, x -> x.addBridge(4, 0, 1));
    }

    private static void moveWindow() {
        for (int agent : NO_AGENTS) {
            refused("moveWindow(" + agent + ", 300)", Check.OUT, x -> x.moveWindow(agent, 300));
            refused("moveWindow(" + agent + ", -1)", Check.OUT, x -> x.moveWindow(agent, -1));
        }
        refused("a processor has no window", Check.ARGUMENT, x -> x.moveWindow(PROCESSOR, 300));
        refused("a processor has no window below", Check.ARGUMENT, x -> x.moveWindow(6, 0));
        refused("the device is not there", Check.ARGUMENT, x -> x.moveWindow(PULLED, 300));
        refused("the device is not there, the same base", Check.ARGUMENT, x -> x.moveWindow(PULLED, 220));
        int[] agents = {MEMORY, DEVICE, ROUTER, BRIDGE};
        int[] sizes = {16, 4, 8, 100};
        for (int i = 0; i < agents.length; i++) {
            int agent = agents[i];
            int beyond = 1024 - sizes[i] + 1;
            for (int base : new int[] {-1, beyond, 1024, Integer.MIN_VALUE, Integer.MAX_VALUE}) {
                refused("moveWindow(" + agent + ", " + base + ")", Check.ARGUMENT, x -> x.moveWindow(agent, base));
            }
        }
        refused("the memory overlaps the device", Check.ARGUMENT, x -> x.moveWindow(MEMORY, 85));
        refused("the device overlaps the memory", Check.ARGUMENT, x -> x.moveWindow(DEVICE, 15));
        refused("the router overlaps the bridge", Check.ARGUMENT, x -> x.moveWindow(ROUTER, 193));
        refused("the bridge overlaps the router", Check.ARGUMENT, x -> x.moveWindow(BRIDGE, 167));
    }

    private static void setRank() {
        for (int agent : NO_AGENTS) {
            refused("setRank(" + agent + ", 1)", Check.OUT, x -> x.setRank(agent, 1));
            refused("setRank(" + agent + ", 10)", Check.OUT, x -> x.setRank(agent, 10));
        }
        for (int rank : new int[] {-1, 10, Integer.MIN_VALUE, Integer.MAX_VALUE}) {
            refused("setRank(1, " + rank + ")", Check.ARGUMENT, x -> x.setRank(PROCESSOR, rank));
        }
    }

    private static void setArbiter() {
        for (int bus : NO_BUSES) {
            refused("setArbiter(" + bus + ", true)", Check.OUT, x -> x.setArbiter(bus, true));
            refused("setArbiter(" + bus + ", false)", Check.OUT, x -> x.setArbiter(bus, false));
        }
    }

    private static void setLoose() {
        for (int agent : NO_AGENTS) {
            refused("setLoose(" + agent + ", false)", Check.OUT, x -> x.setLoose(agent, false));
        }
        for (int agent : new int[] {MEMORY, PROCESSOR, DEVICE, ROUTER, 5, 6, PULLED}) {
            refused("setLoose(" + agent + ", false)", Check.ARGUMENT, x -> x.setLoose(agent, false));
            refused("setLoose(" + agent + ", true)", Check.ARGUMENT, x -> x.setLoose(agent, true));
        }
    }

    private static void kindOf() {
        for (int agent : NO_AGENTS) {
            refused("kindOf(" + agent + ")", Check.OUT, x -> x.kindOf(agent));
        }
    }

    private static void targetOf() {
        for (int bus : NO_BUSES) {
            refused("targetOf(" + bus + ", 0)", Check.OUT, x -> x.targetOf(bus, 0));
            refused("targetOf(" + bus + ", 1024)", Check.OUT, x -> x.targetOf(bus, 1024));
        }
        for (int address : NO_ADDRESSES) {
            refused("targetOf(1, " + address + ")", Check.ARGUMENT, x -> x.targetOf(1, address));
        }
    }

    // ---- programs

    private static final int[] NO_PROCESSORS = {-1, 8, 16, Integer.MIN_VALUE, Integer.MAX_VALUE,
        MEMORY, DEVICE, ROUTER, BRIDGE, 5, PULLED};

    private static void addWrite() {
        for (int agent : NO_PROCESSORS) {
            refused("addWrite(" + agent + ", 0, 0)", Check.OUT, x -> x.addWrite(agent, 0, 0));
            refused("addWrite(" + agent + ", -1, -1)", Check.OUT, x -> x.addWrite(agent, -1, -1));
        }
        for (int address : NO_ADDRESSES) {
            refused("addWrite(1, " + address + ", 0)", Check.ARGUMENT, x -> x.addWrite(PROCESSOR, address, 0));
        }
        for (int value : NO_VALUES) {
            refused("addWrite(1, 0, " + value + ")", Check.ARGUMENT, x -> x.addWrite(PROCESSOR, 0, value));
        }
    }

    private static void addRead() {
        for (int agent : NO_PROCESSORS) {
            refused("addRead(" + agent + ", 0)", Check.OUT, x -> x.addRead(agent, 0));
            refused("addRead(" + agent + ", 1024)", Check.OUT, x -> x.addRead(agent, 1024));
        }
        for (int address : NO_ADDRESSES) {
            refused("addRead(1, " + address + ")", Check.ARGUMENT, x -> x.addRead(PROCESSOR, address));
        }
    }

    private static void addWait() {
        for (int agent : NO_PROCESSORS) {
            refused("addWait(" + agent + ", 0)", Check.OUT, x -> x.addWait(agent, 0));
            refused("addWait(" + agent + ", 8)", Check.OUT, x -> x.addWait(agent, 8));
        }
        for (int vector : new int[] {-2, 8, Integer.MIN_VALUE, Integer.MAX_VALUE}) {
            refused("addWait(1, " + vector + ")", Check.ARGUMENT, x -> x.addWait(PROCESSOR, vector));
        }
    }

    private static void seventeenthStep() {
        Maker full = RefusedTest::boardWithFullProgram;
        refused("17th step: a write", Check.STATE, full, x -> x.addWrite(PROCESSOR, 0, 0));
        refused("17th step: a read", Check.STATE, full, x -> x.addRead(PROCESSOR, 0));
        refused("17th step: a wait", Check.STATE, full, x -> x.addWait(PROCESSOR, 0));
        refused("17th step: a wait for any", Check.STATE, full, x -> x.addWait(PROCESSOR, -1));
        refused("17th step: a wrong address", Check.ARGUMENT, full, x -> x.addWrite(PROCESSOR, 1024, 0));
        refused("17th step: a wrong value", Check.ARGUMENT, full, x -> x.addWrite(PROCESSOR, 0, 10000));
        refused("17th step: a read, wrong address", Check.ARGUMENT, full, x -> x.addRead(PROCESSOR, -1));
        refused("17th step: a wait, wrong vector", Check.ARGUMENT, full, x -> x.addWait(PROCESSOR, 8));
        refused("17th step of no processor", Check.OUT, full, x -> x.addRead(MEMORY, -1));
    }

    private static void looksAtProcessors() {
        for (int agent : NO_PROCESSORS) {
            refused("stepOf(" + agent + ")", Check.OUT, x -> x.stepOf(agent));
            refused("readsOf(" + agent + ")", Check.OUT, x -> x.readsOf(agent));
            refused("valueAt(" + agent + ", 0)", Check.OUT, x -> x.valueAt(agent, 0));
            refused("valueAt(" + agent + ", -1)", Check.OUT, x -> x.valueAt(agent, -1));
            refused("errorAt(" + agent + ", 0)", Check.OUT, x -> x.errorAt(agent, 0));
            refused("errorAt(" + agent + ", 99)", Check.OUT, x -> x.errorAt(agent, 99));
            refused("takenAt(" + agent + ", 0)", Check.OUT, x -> x.takenAt(agent, 0));
            refused("takenAt(" + agent + ", 99)", Check.OUT, x -> x.takenAt(agent, 99));
        }
        Check.due("one read is done", board().readsOf(PROCESSOR), 1);
        Check.due("one wait is done", board().takenAt(PROCESSOR, 0), 3);
        for (int index : new int[] {-1, 1, 16, Integer.MIN_VALUE, Integer.MAX_VALUE}) {
            refused("valueAt(1, " + index + ")", Check.MISSING, x -> x.valueAt(PROCESSOR, index));
            refused("errorAt(1, " + index + ")", Check.MISSING, x -> x.errorAt(PROCESSOR, index));
            refused("takenAt(1, " + index + ")", Check.MISSING, x -> x.takenAt(PROCESSOR, index));
        }
        refused("takenAt(6, 0)", Check.MISSING, x -> x.takenAt(6, 0));
    }

    private static void isCached() {
        for (int agent : NO_PROCESSORS) {
            refused("isCached(" + agent + ", 0)", Check.OUT, x -> x.isCached(agent, 0));
            refused("isCached(" + agent + ", 1024)", Check.OUT, x -> x.isCached(agent, 1024));
        }
        for (int address : NO_ADDRESSES) {
            refused("isCached(1, " + address + ")", Check.ARGUMENT, x -> x.isCached(PROCESSOR, address));
        }
    }

    // ---- devices

    private static final int[] NO_DEVICES = {-1, 8, 16, Integer.MIN_VALUE, Integer.MAX_VALUE,
        MEMORY, PROCESSOR, ROUTER, BRIDGE, 5, 6};

    private static void load() {
        for (int agent : NO_DEVICES) {
            refused("load(" + agent + ", 0)", Check.OUT, x -> x.load(agent, 0));
            refused("load(" + agent + ", -1)", Check.OUT, x -> x.load(agent, -1));
        }
        Maker full = RefusedTest::boardWithFullData;
        for (int value : NO_VALUES) {
            refused("load(2, " + value + ")", Check.ARGUMENT, x -> x.load(DEVICE, value));
            refused("load(2, " + value + ") as 41st", Check.ARGUMENT, full, x -> x.load(DEVICE, value));
            refused("load(7, " + value + ")", Check.ARGUMENT, x -> x.load(PULLED, value));
        }
        refused("a 41st value", Check.STATE, full, x -> x.load(DEVICE, 0));
        refused("a value for a device that is not there", Check.STATE, x -> x.load(PULLED, 0));
    }

    private static void setMessage() {
        for (int agent : NO_DEVICES) {
            refused("setMessage(" + agent + ", 0)", Check.OUT, x -> x.setMessage(agent, 0));
            refused("setMessage(" + agent + ", -1)", Check.OUT, x -> x.setMessage(agent, -1));
        }
        for (int address : NO_ADDRESSES) {
            refused("setMessage(2, " + address + ")", Check.ARGUMENT, x -> x.setMessage(DEVICE, address));
            refused("setMessage(7, " + address + ")", Check.ARGUMENT, x -> x.setMessage(PULLED, address));
        }
    }

    private static void setLine() {
        for (int agent : NO_DEVICES) {
            refused("setLine(" + agent + ", 0)", Check.OUT, x -> x.setLine(agent, 0));
            refused("setLine(" + agent + ", 4)", Check.OUT, x -> x.setLine(agent, 4));
        }
        for (int line : new int[] {-2, 4, Integer.MIN_VALUE, Integer.MAX_VALUE}) {
            refused("setLine(2, " + line + ")", Check.ARGUMENT, x -> x.setLine(DEVICE, line));
            refused("setLine(7, " + line + ")", Check.ARGUMENT, x -> x.setLine(PULLED, line));
        }
    }

    private static void looksAtDevices() {
        for (int agent : NO_DEVICES) {
            refused("stateOf(" + agent + ")", Check.OUT, x -> x.stateOf(agent));
            refused("register(" + agent + ", 0)", Check.OUT, x -> x.register(agent, 0));
            refused("ringIndex(" + agent + ")", Check.OUT, x -> x.ringIndex(agent));
            refused("received(" + agent + ")", Check.OUT, x -> x.received(agent));
            refused("receivedAt(" + agent + ", 0)", Check.OUT, x -> x.receivedAt(agent, 0));
            refused("receivedAt(" + agent + ", -1)", Check.OUT, x -> x.receivedAt(agent, -1));
            refused("blocksOf(" + agent + ")", Check.OUT, x -> x.blocksOf(agent));
            refused("errorsOf(" + agent + ")", Check.OUT, x -> x.errorsOf(agent));
            refused("lastError(" + agent + ")", Check.OUT, x -> x.lastError(agent));
        }
        for (int index : new int[] {-1, 4, Integer.MIN_VALUE, Integer.MAX_VALUE}) {
            refused("register(2, " + index + ")", Check.OUT, x -> x.register(DEVICE, index));
        }
        for (int index : new int[] {-1, 0, 40, Integer.MIN_VALUE, Integer.MAX_VALUE}) {
            refused("receivedAt(2, " + index + ")", Check.MISSING, x -> x.receivedAt(DEVICE, index));
        }
    }

    private static void pull() {
        for (int agent : NO_DEVICES) {
            refused("pull(" + agent + ")", Check.OUT, x -> x.pull(agent));
        }
        refused("pull a second time", Check.STATE, x -> x.pull(PULLED));
    }

    // ---- memories and interrupts

    private static final int[] NO_MEMORIES = {-1, 8, 16, Integer.MIN_VALUE, Integer.MAX_VALUE,
        PROCESSOR, DEVICE, ROUTER, BRIDGE, 6, PULLED};
    private static final int[] NO_OFFSETS = {-1, 16, Integer.MIN_VALUE, Integer.MAX_VALUE};

    private static void put() {
        for (int agent : NO_MEMORIES) {
            refused("put(" + agent + ", 0, 0)", Check.OUT, x -> x.put(agent, 0, 0));
            refused("put(" + agent + ", 0, 10000)", Check.OUT, x -> x.put(agent, 0, 10000));
        }
        for (int offset : NO_OFFSETS) {
            refused("put(0, " + offset + ", 0)", Check.OUT, x -> x.put(MEMORY, offset, 0));
            refused("put(0, " + offset + ", -1)", Check.OUT, x -> x.put(MEMORY, offset, -1));
        }
        for (int value : NO_VALUES) {
            refused("put(0, 5, " + value + ")", Check.ARGUMENT, x -> x.put(MEMORY, 5, value));
        }
        refused("put(5, 2, 0)", Check.OUT, x -> x.put(5, 2, 0));
    }

    private static void looksAtCells() {
        for (int agent : NO_MEMORIES) {
            refused("cellAt(" + agent + ", 0)", Check.OUT, x -> x.cellAt(agent, 0));
            refused("cellAnew(" + agent + ", 0)", Check.OUT, x -> x.cellAnew(agent, 0));
            refused("spoil(" + agent + ", 0)", Check.OUT, x -> x.spoil(agent, 0));
            refused("inbox(" + agent + ")", Check.OUT, x -> x.inbox(agent));
        }
        for (int offset : NO_OFFSETS) {
            refused("cellAt(0, " + offset + ")", Check.OUT, x -> x.cellAt(MEMORY, offset));
            refused("cellAnew(0, " + offset + ")", Check.OUT, x -> x.cellAnew(MEMORY, offset));
            refused("spoil(0, " + offset + ")", Check.OUT, x -> x.spoil(MEMORY, offset));
        }
    }

    private static void setMask() {
        for (int vector : NO_VECTORS) {
            refused("setMask(" + vector + ", true)", Check.ARGUMENT, x -> x.setMask(vector, true));
            refused("setMask(" + vector + ", false)", Check.ARGUMENT, x -> x.setMask(vector, false));
        }
    }

    private static void setVectorRank() {
        for (int vector : NO_VECTORS) {
            refused("setVectorRank(" + vector + ", 0)", Check.ARGUMENT, x -> x.setVectorRank(vector, 0));
        }
        for (int rank : new int[] {-1, 10, Integer.MIN_VALUE, Integer.MAX_VALUE}) {
            refused("setVectorRank(3, " + rank + ")", Check.ARGUMENT, x -> x.setVectorRank(3, rank));
        }
    }

    private static void pendingAndRaisedOn() {
        for (int vector : NO_VECTORS) {
            refused("pending(" + vector + ")", Check.ARGUMENT, x -> x.pending(vector));
        }
        for (int line : new int[] {-1, 4, Integer.MIN_VALUE, Integer.MAX_VALUE}) {
            refused("raisedOn(" + line + ")", Check.ARGUMENT, x -> x.raisedOn(line));
        }
    }

    // ---- cycles

    private static void run() {
        for (int cycles : new int[] {0, -1, 201, 5000, Integer.MIN_VALUE, Integer.MAX_VALUE}) {
            refused("run(" + cycles + ")", Check.ARGUMENT, x -> x.run(cycles));
        }
    }

    private static void runBeyondTheEnd() {
        Maker old = RefusedTest::oldBoard;
        Check.due("all cycles are run", old.make().cycles(), 5000);
        refused("run(1) behind 5000 cycles", Check.STATE, old, x -> x.run(1));
        refused("run(200) behind 5000 cycles", Check.STATE, old, x -> x.run(200));
        refused("run(201) behind 5000 cycles", Check.ARGUMENT, old, x -> x.run(201));
        refused("run(0) behind 5000 cycles", Check.ARGUMENT, old, x -> x.run(0));
        Maker nearly = () -> {
            BusHandler x = board();
            for (int n = 0; n < 24; n++) {
                x.run(200);
            }
            return x;
        };
        Check.due("187 cycles are left", nearly.make().cycles(), 4813);
        refused("run(188) ahead of the end", Check.STATE, nearly, x -> x.run(188));
        refused("run(200) ahead of the end", Check.STATE, nearly, x -> x.run(200));
    }

    private static void listsAndMessages() {
        for (int agent : NO_AGENTS) {
            refused("listLength(" + agent + ", false)", Check.OUT, x -> x.listLength(agent, false));
            refused("listLength(" + agent + ", true)", Check.OUT, x -> x.listLength(agent, true));
            refused("messageAt(" + agent + ", false, -1)", Check.OUT, x -> x.messageAt(agent, false, -1));
            refused("messageAt(" + agent + ", true, 0)", Check.OUT, x -> x.messageAt(agent, true, 0));
        }
        for (int agent : new int[] {MEMORY, PROCESSOR, DEVICE, ROUTER, 5, 6, PULLED}) {
            refused("listLength(" + agent + ", true)", Check.ARGUMENT, x -> x.listLength(agent, true));
            refused("messageAt(" + agent + ", true, 0)", Check.ARGUMENT, x -> x.messageAt(agent, true, 0));
            refused("messageAt(" + agent + ", true, -1)", Check.ARGUMENT, x -> x.messageAt(agent, true, -1));
        }
        for (int index : new int[] {-1, 10, Integer.MIN_VALUE, Integer.MAX_VALUE}) {
            refused("messageAt(2, false, " + index + ")", Check.MISSING, x -> x.messageAt(DEVICE, false, index));
            refused("messageAt(4, false, " + index + ")", Check.MISSING, x -> x.messageAt(BRIDGE, false, index));
            refused("messageAt(4, true, " + index + ")", Check.MISSING, x -> x.messageAt(BRIDGE, true, index));
        }
    }

    private static void looksAtAgents() {
        for (int agent : NO_AGENTS) {
            refused("asksOf(" + agent + ")", Check.OUT, x -> x.asksOf(agent));
        }
    }

    private static void looksAtBuses() {
        for (int bus : NO_BUSES) {
            refused("sentOn(" + bus + ")", Check.OUT, x -> x.sentOn(bus));
            refused("busyShare(" + bus + ")", Check.OUT, x -> x.busyShare(bus));
            refused("busyShare(" + bus + ") without cycles", Check.OUT, BusHandler::new, x -> x.busyShare(bus));
        }
    }

    private static void ringAt() {
        for (int index : new int[] {-1, 0, 1, Integer.MIN_VALUE, Integer.MAX_VALUE}) {
            refused("ringAt(" + index + ")", Check.MISSING, x -> x.ringAt(index));
        }
    }

    // ---- figures and line

    private static void figuresWithoutCycles() {
        Maker young = () -> {
            BusHandler x = new BusHandler();
            x.addMemory(0, 0, 16);
            x.addProcessor(0);
            x.addDevice(0, 100);
            x.addRouter(0, 160);
            x.addBridge(0, 200, 100);
            x.addWrite(PROCESSOR, 3, 4);
            return x;
        };
        refused("meanAsks() without cycles", Check.ARITHMETIC, young, x -> x.meanAsks());
        refused("busyShare(0) without cycles", Check.ARITHMETIC, young, x -> x.busyShare(0));
        refused("busyShare(1) without cycles", Check.ARITHMETIC, young, x -> x.busyShare(1));
        refused("busyShare(2) without cycles", Check.OUT, young, x -> x.busyShare(2));
        refused("busiestShare() without cycles", Check.ARITHMETIC, young, x -> x.busiestShare());
    }

    private static void writeAgent() {
        for (int agent : NO_AGENTS) {
            refused("writeAgent(" + agent + ")", Check.OUT, x -> x.writeAgent(agent));
            refused("writeAgent(" + agent + ") at first", Check.OUT, BusHandler::new, x -> x.writeAgent(agent));
        }
    }

    private static void lineAt() {
        for (int index : new int[] {-1, board().writeAgent(DEVICE), 99, Integer.MIN_VALUE, Integer.MAX_VALUE}) {
            refused("lineAt(" + index + ")", Check.OUT, x -> x.lineAt(index));
        }
        refused("lineAt(0) at first", Check.OUT, BusHandler::new, x -> x.lineAt(0));
    }
}
