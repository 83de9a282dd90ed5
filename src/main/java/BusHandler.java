import java.util.ArrayList;
import java.util.Arrays;
import java.util.NoSuchElementException;

/** A board with processors, memories, devices, a router of interrupts, and buses joined by bridges. */
public final class BusHandler {
    private static final int MAX_AGENTS = 16;
    private static final int MAX_BUSES = 4;
    private static final int MAX_STEPS = 16;
    private static final int MAX_RANK = 9;
    private static final int MAX_VALUE = 9999;
    private static final int MAX_CELLS = 128;
    private static final int MAX_RUN = 200;
    private static final int MAX_CYCLES = 5000;
    private static final int ADDRESSES = 1024;
    private static final int REGISTERS = 4;
    private static final int VECTORS = 8;
    private static final int LINES = 4;
    private static final int CACHE_ROOM = 4;
    private static final int DEVICE_ROOM = 40;
    private static final int MAX_DOORBELLS = 99;
    private static final int MAX_RING = 8;
    private static final int MAX_BLOCK = 8;
    private static final int PATIENCE = 64;
    private static final int LOG_START = 32;

    /** How many messages a list takes from its own agent, and a box from its bus. */
    private static final int LIST_ROOM = 4;
    private static final int BRIDGE_READS = 2;
    private static final int BRIDGE_OTHERS = 4;

    /** The lists have the numbers from 0, two for each agent; the boxes those from 32. */
    private static final int FIRST_BOX = 2 * MAX_AGENTS;
    private static final int PLACES = 3 * MAX_AGENTS;

    private static final int NONE = -1;
    private static final char NO_ERROR = '-';

    private static final char MEMORY = 'm';
    private static final char PROCESSOR = 'p';
    private static final char DEVICE = 'd';
    private static final char ROUTER = 'r';
    private static final char BRIDGE = 'b';

    private static final char WRITE = 'w';
    private static final char READ = 'q';
    private static final char ANSWER = 'a';

    private static final int OPEN_QUEUE = 0;
    private static final int BRIDGE_QUEUE = 1;
    private static final int BOX_QUEUE = 2;

    private static final int STEP_WRITE = 0;
    private static final int STEP_READ = 1;
    private static final int STEP_WAIT = 2;

    private final Tally tally;
    private final Agent[] agents;
    private int agentCount;
    private final Bus[] busTable;
    private int busCount;
    private final boolean[] isMaskedAt;
    private final int[] vectorRanks;
    private final Queue[] pendingQueues;
    private Router router;
    private final StringBuilder writtenLine;

    /** For each list and box the number of that for which it waits; filled anew when it is asked for. */
    private final int[] waits;
    private final int[] ring;

    public BusHandler() {
        tally = new Tally();
        agents = new Agent[MAX_AGENTS];
        busTable = new Bus[MAX_BUSES];
        busTable[0] = new Bus(0, null);
        busCount = 1;
        isMaskedAt = new boolean[VECTORS];
        vectorRanks = new int[VECTORS];
        pendingQueues = new Queue[VECTORS];
        for (int v = 0; v < VECTORS; v++) {
            pendingQueues[v] = new Queue(NONE, OPEN_QUEUE);
        }
        writtenLine = new StringBuilder();
        waits = new int[PLACES];
        ring = new int[PLACES];
    }

    // ---- building

    public int addMemory(int bus, int base, int size)
            throws IndexOutOfBoundsException, IllegalArgumentException, IllegalStateException {
        needBus(bus);
        if (size < 1 || size > MAX_CELLS || !isFree(bus, base, size, NONE)) {
            throw new IllegalArgumentException();
        }
        needAgentRoom();
        return install(new Memory(tally, agentCount, bus, base, size));
    }

    public int addProcessor(int bus) throws IndexOutOfBoundsException, IllegalStateException {
        needBus(bus);
        needAgentRoom();
        return install(new Processor(tally, agentCount, bus));
    }

    public int addDevice(int bus, int base)
            throws IndexOutOfBoundsException, IllegalArgumentException, IllegalStateException {
        needBus(bus);
        if (!isFree(bus, base, REGISTERS, NONE)) {
            throw new IllegalArgumentException();
        }
        needAgentRoom();
        return install(new Device(tally, agentCount, bus, base));
    }

    public int addRouter(int bus, int base)
            throws IndexOutOfBoundsException, IllegalArgumentException, IllegalStateException {
        needBus(bus);
        if (!isFree(bus, base, VECTORS, NONE)) {
            throw new IllegalArgumentException();
        }
        needAgentRoom();
        if (router != null) {
            throw new IllegalStateException();
        }
        router = new Router(tally, agentCount, bus, base, pendingQueues);
        return install(router);
    }

    public int addBridge(int bus, int base, int size)
            throws IndexOutOfBoundsException, IllegalArgumentException, IllegalStateException {
        needBus(bus);
        if (size < 1 || size > ADDRESSES || !isFree(bus, base, size, NONE)) {
            throw new IllegalArgumentException();
        }
        needAgentRoom();
        if (busCount >= MAX_BUSES) {
            throw new IllegalStateException();
        }
        Bridge bridge = new Bridge(tally, agentCount, bus, base, size, busCount);
        busTable[busCount] = new Bus(busCount, bridge);
        busCount++;
        return install(bridge);
    }

    public int moveWindow(int agent, int base) throws IndexOutOfBoundsException, IllegalArgumentException {
        Agent moved = agentAt(agent);
        if (moved.size == 0 || moved.isGone || !isFree(moved.bus, base, moved.size, agent)) {
            throw new IllegalArgumentException();
        }
        int before = moved.base;
        moved.base = base;
        return before;
    }

    public int setRank(int agent, int rank) throws IndexOutOfBoundsException, IllegalArgumentException {
        Agent ranked = agentAt(agent);
        if (rank < 0 || rank > MAX_RANK) {
            throw new IllegalArgumentException();
        }
        int before = ranked.rank;
        ranked.rank = rank;
        return before;
    }

    public boolean setArbiter(int bus, boolean isByRank) throws IndexOutOfBoundsException {
        Bus arbitrated = busAt(bus);
        boolean before = arbitrated.isByRank;
        arbitrated.isByRank = isByRank;
        return before;
    }

    public boolean setLoose(int agent, boolean isLoose) throws IndexOutOfBoundsException, IllegalArgumentException {
        if (agentAt(agent) instanceof Bridge bridge) {
            if (isLoose) {
                tally.wasLoose = true;
            }
            return bridge.loosen(isLoose);
        }
        throw new IllegalArgumentException();
    }

    public int buses() {
        return busCount;
    }

    public char kindOf(int agent) throws IndexOutOfBoundsException {
        return agentAt(agent).kind;
    }

    public int targetOf(int bus, int address) throws IndexOutOfBoundsException, IllegalArgumentException {
        Bus asked = busAt(bus);
        needAddress(address);
        Agent claimant = claimantOf(asked, address);
        return claimant == null ? NONE : claimant.number;
    }

    // ---- programs

    public int addWrite(int processor, int address, int value)
            throws IndexOutOfBoundsException, IllegalArgumentException, IllegalStateException {
        Processor programmed = processorAt(processor);
        needAddress(address);
        needValue(value);
        needStepRoom(programmed);
        return programmed.addStep(STEP_WRITE, address, value);
    }

    public int addRead(int processor, int address)
            throws IndexOutOfBoundsException, IllegalArgumentException, IllegalStateException {
        Processor programmed = processorAt(processor);
        needAddress(address);
        needStepRoom(programmed);
        return programmed.addStep(STEP_READ, address, 0);
    }

    public int addWait(int processor, int vector)
            throws IndexOutOfBoundsException, IllegalArgumentException, IllegalStateException {
        Processor programmed = processorAt(processor);
        if (vector != NONE) {
            needVector(vector);
        }
        needStepRoom(programmed);
        return programmed.addStep(STEP_WAIT, vector, 0);
    }

    public int stepOf(int processor) throws IndexOutOfBoundsException {
        return processorAt(processor).done;
    }

    public int readsOf(int processor) throws IndexOutOfBoundsException {
        return processorAt(processor).readCount;
    }

    public int valueAt(int processor, int index) throws IndexOutOfBoundsException, NoSuchElementException {
        Processor asked = processorAt(processor);
        needElement(index, asked.readCount);
        return asked.readValues[index];
    }

    public char errorAt(int processor, int index) throws IndexOutOfBoundsException, NoSuchElementException {
        Processor asked = processorAt(processor);
        needElement(index, asked.readCount);
        return asked.readErrors[index];
    }

    public int takenAt(int processor, int index) throws IndexOutOfBoundsException, NoSuchElementException {
        Processor asked = processorAt(processor);
        needElement(index, asked.takenCount);
        return asked.takenVectors[index];
    }

    public boolean isCached(int processor, int address) throws IndexOutOfBoundsException, IllegalArgumentException {
        Processor asked = processorAt(processor);
        needAddress(address);
        return asked.cacheIndexOf(address) >= 0;
    }

    // ---- devices

    public int load(int device, int value)
            throws IndexOutOfBoundsException, IllegalArgumentException, IllegalStateException {
        Device loaded = deviceAt(device);
        needValue(value);
        if (loaded.isGone || loaded.dataCount >= DEVICE_ROOM) {
            throw new IllegalStateException();
        }
        loaded.data[loaded.dataCount] = value;
        loaded.dataCount++;
        return loaded.dataCount;
    }

    public int setMessage(int device, int address) throws IndexOutOfBoundsException, IllegalArgumentException {
        Device told = deviceAt(device);
        needAddress(address);
        int before = told.messageAddress;
        told.messageAddress = address;
        told.lineToRaise = NONE;
        return before;
    }

    public int setLine(int device, int line) throws IndexOutOfBoundsException, IllegalArgumentException {
        Device told = deviceAt(device);
        if (line != NONE) {
            needLine(line);
        }
        int before = told.lineToRaise;
        told.lineToRaise = line;
        told.messageAddress = NONE;
        return before;
    }

    public char stateOf(int device) throws IndexOutOfBoundsException {
        Device asked = deviceAt(device);
        return asked.isGone ? 'g' : asked.state;
    }

    public int register(int device, int index) throws IndexOutOfBoundsException {
        Device asked = deviceAt(device);
        if (index < 0 || index >= REGISTERS) {
            throw new IndexOutOfBoundsException();
        }
        return asked.registerValue(index);
    }

    public int ringIndex(int device) throws IndexOutOfBoundsException {
        return deviceAt(device).ringPlace;
    }

    public int received(int device) throws IndexOutOfBoundsException {
        return deviceAt(device).gainedCount;
    }

    public int receivedAt(int device, int index) throws IndexOutOfBoundsException, NoSuchElementException {
        Device asked = deviceAt(device);
        needElement(index, asked.gainedCount);
        return asked.gained[index];
    }

    public int blocksOf(int device) throws IndexOutOfBoundsException {
        return deviceAt(device).blockCount;
    }

    public int errorsOf(int device) throws IndexOutOfBoundsException {
        return deviceAt(device).errorCount;
    }

    public char lastError(int device) throws IndexOutOfBoundsException {
        return deviceAt(device).latestError;
    }

    public int pull(int device) throws IndexOutOfBoundsException, IllegalStateException {
        Device pulled = deviceAt(device);
        if (pulled.isGone) {
            throw new IllegalStateException();
        }
        return pulled.leave();
    }

    // ---- memories and interrupts

    public int put(int memory, int offset, int value) throws IndexOutOfBoundsException, IllegalArgumentException {
        Memory changed = memoryWith(memory, offset);
        needValue(value);
        return changed.store(offset, value);
    }

    public int cellAt(int memory, int offset) throws IndexOutOfBoundsException {
        return memoryWith(memory, offset).cells[offset];
    }

    public int cellAnew(int memory, int offset) throws IndexOutOfBoundsException {
        return memoryWith(memory, offset).loggedAt(offset);
    }

    public boolean spoil(int memory, int offset) throws IndexOutOfBoundsException {
        Memory spoilt = memoryWith(memory, offset);
        boolean before = spoilt.isSpoilt[offset];
        spoilt.isSpoilt[offset] = true;
        return before;
    }

    public boolean setMask(int vector, boolean isMasked) throws IllegalArgumentException {
        needVector(vector);
        boolean before = isMaskedAt[vector];
        isMaskedAt[vector] = isMasked;
        return before;
    }

    public int setVectorRank(int vector, int rank) throws IllegalArgumentException {
        needVector(vector);
        if (rank < 0 || rank > MAX_RANK) {
            throw new IllegalArgumentException();
        }
        int before = vectorRanks[vector];
        vectorRanks[vector] = rank;
        return before;
    }

    public int pending(int vector) throws IllegalArgumentException {
        needVector(vector);
        return pendingQueues[vector].messages.size();
    }

    public int raisedOn(int line) throws IllegalArgumentException {
        needLine(line);
        return countRaisers(line);
    }

    public long rung() {
        return tally.bellCount;
    }

    // ---- cycles

    public int run(int cycles) throws IllegalArgumentException, IllegalStateException {
        if (cycles < 1 || cycles > MAX_RUN) {
            throw new IllegalArgumentException();
        }
        if (tally.cycle + cycles > MAX_CYCLES) {
            throw new IllegalStateException();
        }
        int gone = 0;
        for (int n = 0; n < cycles; n++) {
            tally.cycle++;
            for (int b = 0; b < busCount; b++) {
                gone += serve(busTable[b]);
            }
            actAll();
        }
        return gone;
    }

    public int cycles() {
        return tally.cycle;
    }

    public int listLength(int agent, boolean isLower) throws IndexOutOfBoundsException, IllegalArgumentException {
        return listAt(agent, isLower).messages.size();
    }

    public char messageAt(int agent, boolean isLower, int index)
            throws IndexOutOfBoundsException, IllegalArgumentException, NoSuchElementException {
        Queue asked = listAt(agent, isLower);
        needElement(index, asked.messages.size());
        return asked.messages.get(index).kind;
    }

    public int inbox(int memory) throws IndexOutOfBoundsException {
        return memoryAt(memory).box.messages.size();
    }

    public int asksOf(int agent) throws IndexOutOfBoundsException {
        return agentAt(agent).askCount;
    }

    public long sentOn(int bus) throws IndexOutOfBoundsException {
        return busAt(bus).sentCount;
    }

    public int lost() {
        return tally.lostCount;
    }

    public int early() {
        return tally.earlyCount;
    }

    public int overtaken() {
        return tally.overtakenCount;
    }

    public int ringLength() {
        return findRing();
    }

    public int ringAt(int index) throws NoSuchElementException {
        needElement(index, findRing());
        return ring[index];
    }

    // ---- figures and line

    public double meanAsks() throws ArithmeticException {
        if (tally.cycle == 0) {
            throw new ArithmeticException();
        }
        return (double) tally.askCount / (double) tally.cycle;
    }

    public float busyShare(int bus) throws IndexOutOfBoundsException, ArithmeticException {
        Bus asked = busAt(bus);
        if (tally.cycle == 0) {
            throw new ArithmeticException();
        }
        return asked.busyShareOf(tally.cycle);
    }

    public float busiestShare() throws ArithmeticException {
        if (tally.cycle == 0) {
            throw new ArithmeticException();
        }
        float busiest = 0.0f;
        for (int b = 0; b < busCount; b++) {
            float share = busTable[b].busyShareOf(tally.cycle);
            busiest = share > busiest ? share : busiest;
        }
        return busiest;
    }

    public boolean isConsistent() {
        for (int k = 0; k < agentCount; k++) {
            if (!agents[k].isSound()) {
                return false;
            }
        }
        return tally.wasLoose || tally.overtakenCount == 0;
    }

    public int writeAgent(int agent) throws IndexOutOfBoundsException {
        Agent written = agentAt(agent);
        writtenLine.setLength(0);
        writtenLine.append(written.number).append(' ').append(nameOf(written.kind));
        writtenLine.append(" bus").append(written.bus);
        appendMessages(written.list);
        if (written instanceof Bridge bridge) {
            appendMessages(bridge.lower);
        }
        return writtenLine.length();
    }

    public char lineAt(int index) throws IndexOutOfBoundsException {
        if (index < 0 || index >= writtenLine.length()) {
            throw new IndexOutOfBoundsException();
        }
        return writtenLine.charAt(index);
    }

    // ---- what the calls need

    private void needBus(int bus) {
        if (bus < 0 || bus >= busCount) {
            throw new IndexOutOfBoundsException();
        }
    }

    private Bus busAt(int bus) {
        needBus(bus);
        return busTable[bus];
    }

    private Agent agentAt(int agent) {
        if (agent < 0 || agent >= agentCount) {
            throw new IndexOutOfBoundsException();
        }
        return agents[agent];
    }

    private Memory memoryAt(int agent) {
        if (agentAt(agent) instanceof Memory memory) {
            return memory;
        }
        throw new IndexOutOfBoundsException();
    }

    private Memory memoryWith(int agent, int offset) {
        Memory memory = memoryAt(agent);
        if (!memory.hasCell(offset)) {
            throw new IndexOutOfBoundsException();
        }
        return memory;
    }

    private Processor processorAt(int agent) {
        if (agentAt(agent) instanceof Processor processor) {
            return processor;
        }
        throw new IndexOutOfBoundsException();
    }

    private Device deviceAt(int agent) {
        if (agentAt(agent) instanceof Device device) {
            return device;
        }
        throw new IndexOutOfBoundsException();
    }

    private Queue listAt(int agent, boolean isLower) {
        Agent asked = agentAt(agent);
        if (!isLower) {
            return asked.list;
        }
        if (asked instanceof Bridge bridge) {
            return bridge.lower;
        }
        throw new IllegalArgumentException();
    }

    private static void needAddress(int address) {
        if (address < 0 || address >= ADDRESSES) {
            throw new IllegalArgumentException();
        }
    }

    private static void needValue(int value) {
        if (value < 0 || value > MAX_VALUE) {
            throw new IllegalArgumentException();
        }
    }

    private static void needVector(int vector) {
        if (vector < 0 || vector >= VECTORS) {
            throw new IllegalArgumentException();
        }
    }

    private static void needLine(int line) {
        if (line < 0 || line >= LINES) {
            throw new IllegalArgumentException();
        }
    }

    private static void needElement(int index, int count) {
        if (index < 0 || index >= count) {
            throw new NoSuchElementException();
        }
    }

    private static void needStepRoom(Processor processor) {
        if (processor.stepCount >= MAX_STEPS) {
            throw new IllegalStateException();
        }
    }

    private void needAgentRoom() {
        if (agentCount >= MAX_AGENTS) {
            throw new IllegalStateException();
        }
    }

    // ---- how agents are found

    private int install(Agent agent) {
        agents[agentCount] = agent;
        agentCount++;
        return agent.number;
    }

    /** Whether a window fits on a bus; the agent that is told, or NONE, is in nobody's way. */
    private boolean isFree(int bus, int base, int size, int except) {
        if (base < 0 || base > ADDRESSES - size) {
            return false;
        }
        for (int k = 0; k < agentCount; k++) {
            Agent other = agents[k];
            if (k != except && other.bus == bus && other.overlaps(base, size)) {
                return false;
            }
        }
        return true;
    }

    private Agent claimantOf(Bus bus, int address) {
        for (int k = 0; k < agentCount; k++) {
            if (agents[k].bus == bus.number && agents[k].covers(address)) {
                return agents[k];
            }
        }
        if (bus.above == null || bus.above.covers(address)) {
            return null;
        }
        return bus.above;
    }

    /** The agent itself if it is on the bus, otherwise the bridge that leads towards it. */
    private Agent wayTo(Agent reader, Bus bus) {
        if (reader.bus == bus.number) {
            return reader;
        }
        Bridge step = busTable[reader.bus].above;
        for (int depth = 0; depth < MAX_BUSES && step != null; depth++) {
            if (step.bus == bus.number) {
                return step;
            }
            step = busTable[step.bus].above;
        }
        return bus.above;
    }

    private Agent receiverOf(Message message, Bus bus) {
        if (message.kind == ANSWER) {
            return wayTo(agents[message.origin], bus);
        }
        return claimantOf(bus, message.address);
    }

    // ---- the first part of a cycle: what goes

    /** Grants a bus once; returns how many messages went, 0 or 1. */
    private int serve(Bus bus) {
        Agent granted = null;
        int offer = NONE;
        for (int k = 0; k < agentCount; k++) {
            Queue list = agents[k].outletTo(bus.number);
            if (list == null || !list.hasBefore(tally.cycle)) {
                continue;
            }
            int index = offerIn(list, bus, tally.cycle);
            if (index < 0) {
                agents[k].askCount++;
                tally.askCount++;
            } else if (granted == null || bus.prefers(agents[k], granted)) {
                granted = agents[k];
                offer = index;
            }
        }
        if (granted == null) {
            return 0;
        }
        bus.grantedLast = granted.number;
        bus.sentCount++;
        send(granted, offer, bus);
        return 1;
    }

    /** The index of the first message that came before a cycle and can go, or NONE. */
    private int offerIn(Queue list, Bus bus, int cycle) {
        for (int index = 0; index < list.messages.size(); index++) {
            Message message = list.messages.get(index);
            if (message.arrived < cycle && canReachHead(list, index)) {
                Agent receiver = receiverOf(message, bus);
                if (receiver == null || receiver.hasRoomFor(message.kind, bus.number)) {
                    return index;
                }
            }
        }
        return NONE;
    }

    private boolean canReachHead(Queue list, int index) {
        Message message = list.messages.get(index);
        for (int ahead = 0; ahead < index; ahead++) {
            if (!mayOvertake(message, list.messages.get(ahead), list)) {
                return false;
            }
        }
        return true;
    }

    private boolean mayOvertake(Message message, Message other, Queue list) {
        if (message.kind == WRITE) {
            return other.kind != WRITE
                || list.isLoose && router != null && router.covers(message.address);
        }
        return message.kind == ANSWER && other.kind == READ;
    }

    private void send(Agent sender, int index, Bus bus) {
        Queue list = sender.outletTo(bus.number);
        if (list == null || index < 0 || index >= list.messages.size()) {
            return;
        }
        Message message = list.messages.get(index);
        if (message.kind == WRITE) {
            if (list.role == BRIDGE_QUEUE) {
                tally.overtakenCount += list.writesAhead(index);
            }
            dropFromCaches(bus.number, message.address);
        }
        list.messages.remove(index);
        Agent receiver = receiverOf(message, bus);
        if (receiver == null) {
            sendToNobody(sender, message, bus);
        } else if (message.kind == ANSWER) {
            receiver.acceptAnswer(message, bus.number);
        } else {
            receiver.accept(message, bus.number);
        }
    }

    private void sendToNobody(Agent sender, Message message, Bus bus) {
        if (message.kind == WRITE) {
            tally.lostCount++;
        } else if (message.kind == READ) {
            message.turnIntoAnswer(NONE, 'n');
            sender.acceptAnswer(message, bus.number);
        }
    }

    private void dropFromCaches(int bus, int address) {
        for (int k = 0; k < agentCount; k++) {
            if (agents[k].bus == bus && agents[k] instanceof Processor processor) {
                processor.forget(address);
            }
        }
    }

    // ---- the second part of a cycle: what the agents do

    private void actAll() {
        for (int k = 0; k < agentCount; k++) {
            if (agents[k] instanceof Processor processor && processor.isAtWait()) {
                tryToTake(processor);
            } else if (!agents[k].isGone) {
                agents[k].act();
            }
        }
    }

    private void tryToTake(Processor processor) {
        int vector = vectorToTake(processor.wantedVector());
        if (vector < 0) {
            return;
        }
        if (isTakenEarly(vector)) {
            tally.earlyCount++;
        }
        if (!pendingQueues[vector].messages.isEmpty()) {
            pendingQueues[vector].messages.remove(0);
        }
        processor.noteTaken(vector);
    }

    /** The vector that a wait takes now, or NONE. */
    private int vectorToTake(int wanted) {
        int best = NONE;
        for (int v = 0; v < VECTORS; v++) {
            boolean isMeant = wanted == NONE || wanted == v;
            if (isMeant && canBeTaken(v) && (best < 0 || vectorRanks[v] > vectorRanks[best])) {
                best = v;
            }
        }
        return best;
    }

    private boolean canBeTaken(int vector) {
        if (router == null || isMaskedAt[vector]) {
            return false;
        }
        return !pendingQueues[vector].messages.isEmpty() || countRaisers(vector) > 0;
    }

    private int countRaisers(int line) {
        int count = 0;
        for (int k = 0; k < agentCount; k++) {
            if (agents[k] instanceof Device device && device.lineRaised == line) {
                count++;
            }
        }
        return count;
    }

    private boolean isTakenEarly(int vector) {
        if (!pendingQueues[vector].messages.isEmpty()) {
            Message message = pendingQueues[vector].messages.get(0);
            return isWriteUnderWay(message.origin, message.order);
        }
        for (int k = 0; k < agentCount; k++) {
            if (agents[k] instanceof Device device && device.lineRaised == vector
                && isWriteUnderWay(k, device.raisedOrder)) {
                return true;
            }
        }
        return false;
    }

    /** Whether a write by an agent that came before an order is in any list or box. */
    private boolean isWriteUnderWay(int origin, long order) {
        for (int k = 0; k < agentCount; k++) {
            if (agents[k].holdsWriteBefore(origin, order)) {
                return true;
            }
        }
        return false;
    }

    // ---- waiting

    /** Fills the row of the ring that is told; returns its length. */
    private int findRing() {
        Arrays.fill(waits, NONE);
        for (int k = 0; k < agentCount; k++) {
            noteWaitsOf(agents[k]);
        }
        for (int start = 0; start < PLACES; start++) {
            int length = followRing(start);
            if (length > 0) {
                return length;
            }
        }
        return 0;
    }

    private int followRing(int start) {
        int place = start;
        for (int length = 0; length < PLACES && place >= 0 && place < PLACES; length++) {
            if (length > 0 && place == start) {
                return length;
            }
            ring[length] = place;
            place = waits[place];
        }
        return 0;
    }

    private void noteWaitsOf(Agent agent) {
        noteWait(agent.list, busTable[agent.bus]);
        if (agent instanceof Bridge bridge) {
            noteWait(bridge.lower, busTable[bridge.below]);
        }
        if (agent instanceof Memory memory && memory.isStuck()) {
            waits[memory.box.number] = memory.list.number;
        }
    }

    private void noteWait(Queue list, Bus bus) {
        boolean isWaiting = !list.messages.isEmpty() && offerIn(list, bus, tally.cycle + 1) < 0;
        if (isWaiting) {
            Agent receiver = receiverOf(list.messages.get(0), bus);
            Queue inlet = receiver == null ? null : receiver.inletFrom(bus.number);
            if (inlet != null) {
                waits[list.number] = inlet.number;
            }
        }
    }

    // ---- the line

    private static String nameOf(char kind) {
        switch (kind) {
            case MEMORY: return "memory";
            case PROCESSOR: return "processor";
            case DEVICE: return "device";
            case ROUTER: return "router";
            default: return "bridge";
        }
    }

    private void appendMessages(Queue list) {
        for (int i = 0; i < list.messages.size(); i++) {
            Message message = list.messages.get(i);
            writtenLine.append(' ').append(message.kind);
            if (message.kind != ANSWER) {
                writtenLine.append(message.address);
            }
        }
    }

    // ---- the parts of the board

    /** What is counted for the whole board. */
    private static final class Tally {
        int cycle;
        long latestOrder;
        long bellCount;
        int lostCount;
        int earlyCount;
        int overtakenCount;
        int askCount;
        boolean wasLoose;

        long nextOrder() {
            latestOrder++;
            return latestOrder;
        }
    }

    /** A message; a read that is answered becomes the answer itself, so that it keeps its order. */
    private static final class Message {
        char kind;
        final int address;
        int value;
        char error;
        final int origin;
        final long order;
        int arrived;
        int cell;

        Message(char kind, int address, int value, int origin, long order) {
            this.kind = kind;
            this.address = address;
            this.value = value;
            this.error = NO_ERROR;
            this.origin = origin;
            this.order = order;
        }

        void turnIntoAnswer(int value, char error) {
            this.kind = ANSWER;
            this.value = value;
            this.error = error;
        }
    }

    /** A list or a box of messages, the first one ahead. */
    private static final class Queue {
        final int number;
        final int role;
        final ArrayList<Message> messages;
        boolean isLoose;

        Queue(int number, int role) {
            this.number = number;
            this.role = role;
            this.messages = new ArrayList<Message>();
        }

        void append(Message message, int cycle) {
            message.arrived = cycle;
            messages.add(message);
        }

        boolean isFull() {
            return messages.size() >= LIST_ROOM;
        }

        boolean hasRoomFor(char kind) {
            if (role == BOX_QUEUE) {
                return !isFull();
            }
            if (role == BRIDGE_QUEUE) {
                return countOf(kind) < (kind == READ ? BRIDGE_READS : BRIDGE_OTHERS);
            }
            return true;
        }

        /** Messages stand in the order in which they came, so the first one tells. */
        boolean hasBefore(int cycle) {
            return !messages.isEmpty() && messages.get(0).arrived < cycle;
        }

        int countOf(char kind) {
            int count = 0;
            for (int i = 0; i < messages.size(); i++) {
                if (messages.get(i).kind == kind) {
                    count++;
                }
            }
            return count;
        }

        int writesAhead(int index) {
            int count = 0;
            for (int i = 0; i < index && i < messages.size(); i++) {
                if (messages.get(i).kind == WRITE) {
                    count++;
                }
            }
            return count;
        }

        boolean hasWriteBefore(int origin, long order) {
            for (int i = 0; i < messages.size(); i++) {
                Message message = messages.get(i);
                if (message.kind == WRITE && message.origin == origin && message.order < order) {
                    return true;
                }
            }
            return false;
        }
    }

    private static final class Bus {
        final int number;
        /** The bridge below which the bus is, null for the bus 0. */
        final Bridge above;
        boolean isByRank;
        int grantedLast;
        long sentCount;

        Bus(int number, Bridge above) {
            this.number = number;
            this.above = above;
            this.grantedLast = NONE;
        }

        /** Whether an agent is granted rather than one with a lower number. */
        boolean prefers(Agent agent, Agent lower) {
            if (isByRank) {
                return agent.rank > lower.rank;
            }
            return turnOf(agent) < turnOf(lower);
        }

        private int turnOf(Agent agent) {
            return Math.floorMod(agent.number - grantedLast - 1, MAX_AGENTS);
        }

        float busyShareOf(int cycles) {
            return cycles == 0 ? 0.0f : (float) sentCount / (float) cycles;
        }
    }

    private abstract static class Agent {
        final Tally tally;
        final int number;
        final char kind;
        final int bus;
        final int size;
        int base;
        int rank;
        int askCount;
        boolean isGone;
        final Queue list;
        /** The order of the read whose answer is waited for, 0 for none. */
        long awaited;
        int waitedActs;

        Agent(Tally tally, int number, char kind, int bus, int base, int size) {
            this.tally = tally;
            this.number = number;
            this.kind = kind;
            this.bus = bus;
            this.base = base;
            this.size = size;
            this.list = new Queue(2 * number, kind == BRIDGE ? BRIDGE_QUEUE : OPEN_QUEUE);
        }

        /** What the agent does when it acts and waits for no answer. */
        void step() {
        }

        /** Takes a write or a read that has gone on a bus. */
        void accept(Message message, int fromBus) {
        }

        /** Takes what the read that was waited for gives. */
        void finishRead(int value, char error) {
        }

        boolean covers(int address) {
            return !isGone && address >= base && address < base + size;
        }

        boolean overlaps(int otherBase, int otherSize) {
            return !isGone && otherBase < base + size && base < otherBase + otherSize;
        }

        /** The list that leads to a bus, null if there is none. */
        Queue outletTo(int toBus) {
            return toBus == bus ? list : null;
        }

        /** The list or the box that takes messages from a bus, null if there is always room. */
        Queue inletFrom(int fromBus) {
            return null;
        }

        boolean hasRoomFor(char messageKind, int fromBus) {
            Queue inlet = inletFrom(fromBus);
            return inlet == null || inlet.hasRoomFor(messageKind);
        }

        boolean holdsWriteBefore(int origin, long order) {
            return list.hasWriteBefore(origin, order);
        }

        boolean isSound() {
            return true;
        }

        void act() {
            if (awaited == 0) {
                step();
                return;
            }
            waitedActs++;
            if (waitedActs >= PATIENCE) {
                awaited = 0;
                finishRead(NONE, 't');
            }
        }

        void acceptAnswer(Message answer, int fromBus) {
            if (!isGone && awaited == answer.order) {
                awaited = 0;
                finishRead(answer.value, answer.error);
            }
        }

        boolean tryWrite(int address, int value) {
            if (list.isFull()) {
                return false;
            }
            Message write = new Message(WRITE, address, value, number, tally.nextOrder());
            list.append(write, tally.cycle);
            return true;
        }

        void tryRead(int address) {
            if (list.isFull()) {
                return;
            }
            awaited = tally.nextOrder();
            waitedActs = 0;
            list.append(new Message(READ, address, 0, number, awaited), tally.cycle);
        }
    }

    private static final class Memory extends Agent {
        final int[] cells;
        final boolean[] isSpoilt;
        final Queue box;
        int[] logOffsets;
        int[] logValues;
        int logCount;
        final int[] replayed;

        Memory(Tally tally, int number, int bus, int base, int size) {
            super(tally, number, MEMORY, bus, base, size);
            cells = new int[size];
            isSpoilt = new boolean[size];
            box = new Queue(FIRST_BOX + number, BOX_QUEUE);
            logOffsets = new int[LOG_START];
            logValues = new int[LOG_START];
            replayed = new int[size];
        }

        boolean hasCell(int offset) {
            return offset >= 0 && offset < cells.length;
        }

        int store(int offset, int value) {
            if (!hasCell(offset)) {
                return NONE;
            }
            int before = cells[offset];
            cells[offset] = value;
            isSpoilt[offset] = false;
            note(offset, value);
            return before;
        }

        private void note(int offset, int value) {
            if (logCount >= logOffsets.length) {
                logOffsets = Arrays.copyOf(logOffsets, 2 * logCount);
                logValues = Arrays.copyOf(logValues, 2 * logCount);
            }
            logOffsets[logCount] = offset;
            logValues[logCount] = value;
            logCount++;
        }

        int loggedAt(int offset) {
            for (int i = logCount - 1; i >= 0; i--) {
                if (logOffsets[i] == offset) {
                    return logValues[i];
                }
            }
            return 0;
        }

        void step() {
            if (box.messages.isEmpty()) {
                return;
            }
            Message first = box.messages.get(0);
            if (first.kind == WRITE) {
                box.messages.remove(0);
                store(first.cell, first.value);
            } else if (!list.isFull()) {
                box.messages.remove(0);
                answer(first);
            }
        }

        private void answer(Message read) {
            if (!hasCell(read.cell) || isSpoilt[read.cell]) {
                read.turnIntoAnswer(NONE, 'p');
            } else {
                read.turnIntoAnswer(cells[read.cell], NO_ERROR);
            }
            list.append(read, tally.cycle);
        }

        /** Whether the box waits for the list. */
        boolean isStuck() {
            return !box.messages.isEmpty() && box.messages.get(0).kind == READ && list.isFull();
        }

        void accept(Message message, int fromBus) {
            message.cell = message.address - base;
            box.append(message, tally.cycle);
        }

        Queue inletFrom(int fromBus) {
            return box;
        }

        boolean holdsWriteBefore(int origin, long order) {
            return list.hasWriteBefore(origin, order) || box.hasWriteBefore(origin, order);
        }

        boolean isSound() {
            if (box.messages.size() > LIST_ROOM) {
                return false;
            }
            Arrays.fill(replayed, 0);
            for (int i = 0; i < logCount; i++) {
                if (hasCell(logOffsets[i])) {
                    replayed[logOffsets[i]] = logValues[i];
                }
            }
            for (int offset = 0; offset < cells.length; offset++) {
                if (replayed[offset] != cells[offset]) {
                    return false;
                }
            }
            return true;
        }
    }

    private static final class Router extends Agent {
        final Queue[] pendingQueues;

        Router(Tally tally, int number, int bus, int base, Queue[] pendingQueues) {
            super(tally, number, ROUTER, bus, base, VECTORS);
            this.pendingQueues = pendingQueues;
        }

        void accept(Message message, int fromBus) {
            int vector = message.address - base;
            if (vector < 0 || vector >= pendingQueues.length) {
                return;
            }
            if (message.kind == WRITE) {
                pendingQueues[vector].append(message, tally.cycle);
                tally.bellCount++;
            } else {
                message.turnIntoAnswer(pendingQueues[vector].messages.size(), NO_ERROR);
                list.append(message, tally.cycle);
            }
        }
    }

    private static final class Bridge extends Agent {
        final int below;
        /** The list that leads down; the one of every agent leads up. */
        final Queue lower;

        Bridge(Tally tally, int number, int bus, int base, int size, int below) {
            super(tally, number, BRIDGE, bus, base, size);
            this.below = below;
            this.lower = new Queue(2 * number + 1, BRIDGE_QUEUE);
        }

        /** Returns whether the bridge was loose before. */
        boolean loosen(boolean isLoose) {
            boolean before = list.isLoose;
            list.isLoose = isLoose;
            lower.isLoose = isLoose;
            return before;
        }

        void accept(Message message, int fromBus) {
            inletFrom(fromBus).append(message, tally.cycle);
        }

        /** The answer to a read that nobody claimed comes so into the other list than the read's. */
        void acceptAnswer(Message answer, int fromBus) {
            inletFrom(fromBus).append(answer, tally.cycle);
        }

        Queue outletTo(int toBus) {
            if (toBus == bus) {
                return list;
            }
            return toBus == below ? lower : null;
        }

        Queue inletFrom(int fromBus) {
            return fromBus == bus ? lower : list;
        }

        boolean holdsWriteBefore(int origin, long order) {
            return list.hasWriteBefore(origin, order) || lower.hasWriteBefore(origin, order);
        }

        boolean isSound() {
            return isWithinRoom(list) && isWithinRoom(lower);
        }

        private static boolean isWithinRoom(Queue queue) {
            return queue.countOf(WRITE) <= BRIDGE_OTHERS && queue.countOf(READ) <= BRIDGE_READS;
        }
    }

    private static final class Processor extends Agent {
        final int[] stepKinds;
        /** The address of a write or a read, the vector of a wait. */
        final int[] stepPlaces;
        final int[] stepValues;
        int stepCount;
        int done;
        final int[] readValues;
        final char[] readErrors;
        int readCount;
        final int[] takenVectors;
        int takenCount;
        /** The oldest one is the first. */
        final int[] cacheAddresses;
        final int[] cacheValues;
        int cacheCount;

        Processor(Tally tally, int number, int bus) {
            super(tally, number, PROCESSOR, bus, 0, 0);
            stepKinds = new int[MAX_STEPS];
            stepPlaces = new int[MAX_STEPS];
            stepValues = new int[MAX_STEPS];
            readValues = new int[MAX_STEPS];
            readErrors = new char[MAX_STEPS];
            takenVectors = new int[MAX_STEPS];
            cacheAddresses = new int[CACHE_ROOM];
            cacheValues = new int[CACHE_ROOM];
        }

        int addStep(int kind, int place, int value) {
            if (stepCount < MAX_STEPS) {
                stepKinds[stepCount] = kind;
                stepPlaces[stepCount] = place;
                stepValues[stepCount] = value;
                stepCount++;
            }
            return stepCount;
        }

        private boolean hasStep() {
            return done < stepCount && done < MAX_STEPS;
        }

        boolean isAtWait() {
            return hasStep() && stepKinds[done] == STEP_WAIT;
        }

        int wantedVector() {
            return hasStep() ? stepPlaces[done] : NONE;
        }

        void noteTaken(int vector) {
            if (takenCount < MAX_STEPS) {
                takenVectors[takenCount] = vector;
                takenCount++;
                done++;
            }
        }

        void step() {
            if (!hasStep()) {
                return;
            }
            int address = stepPlaces[done];
            if (stepKinds[done] == STEP_WRITE) {
                if (tryWrite(address, stepValues[done])) {
                    forget(address);
                    done++;
                }
            } else if (stepKinds[done] == STEP_READ) {
                int cached = cacheIndexOf(address);
                if (cached >= 0) {
                    giveRead(cacheValues[cached], NO_ERROR);
                } else {
                    tryRead(address);
                }
            }
        }

        private void giveRead(int value, char error) {
            if (readCount < MAX_STEPS) {
                readValues[readCount] = value;
                readErrors[readCount] = error;
                readCount++;
                done++;
            }
        }

        void finishRead(int value, char error) {
            if (error == NO_ERROR && hasStep()) {
                remember(stepPlaces[done], value);
            }
            giveRead(value, error);
        }

        int cacheIndexOf(int address) {
            for (int i = 0; i < cacheCount; i++) {
                if (cacheAddresses[i] == address) {
                    return i;
                }
            }
            return NONE;
        }

        private void remember(int address, int value) {
            forget(address);
            if (cacheCount >= CACHE_ROOM) {
                dropCached(0);
            }
            cacheAddresses[cacheCount] = address;
            cacheValues[cacheCount] = value;
            cacheCount++;
        }

        void forget(int address) {
            int index = cacheIndexOf(address);
            if (index >= 0) {
                dropCached(index);
            }
        }

        private void dropCached(int index) {
            for (int i = index; i + 1 < cacheCount; i++) {
                cacheAddresses[i] = cacheAddresses[i + 1];
                cacheValues[i] = cacheValues[i + 1];
            }
            cacheCount--;
        }
    }

    /** The descriptor that a device has at hand. */
    private static final class Block {
        int address;
        int length;
        boolean isInward;
        boolean hasMore;
        int moved;
    }

    private static final class Device extends Agent {
        int doorbells;
        int ringBase;
        int ringSize;
        boolean isAwake;
        char state;
        int ringPlace;
        final Block block;
        final int[] data;
        int dataCount;
        final int[] gained;
        int gainedCount;
        int blockCount;
        int errorCount;
        char latestError;
        /** At most one of these two is not NONE: how the device interrupts. */
        int messageAddress;
        int lineToRaise;
        int lineRaised;
        long raisedOrder;

        Device(Tally tally, int number, int bus, int base) {
            super(tally, number, DEVICE, bus, base, REGISTERS);
            isAwake = true;
            state = 'i';
            block = new Block();
            data = new int[DEVICE_ROOM];
            gained = new int[DEVICE_ROOM];
            latestError = NO_ERROR;
            messageAddress = NONE;
            lineToRaise = NONE;
            lineRaised = NONE;
        }

        /** Pulls the device out; returns how many messages are lost with it. */
        int leave() {
            int count = list.messages.size();
            list.messages.clear();
            lineRaised = NONE;
            isGone = true;
            return count;
        }

        int registerValue(int index) {
            switch (index) {
                case 0: return doorbells;
                case 1: return ringBase;
                case 2: return ringSize;
                default: return isAwake ? 1 : 0;
            }
        }

        void accept(Message message, int fromBus) {
            if (message.kind == READ) {
                answer(message, message.address - base);
            } else if (isAwake || message.address - base == 3) {
                setRegister(message.address - base, message.value);
            } else {
                tally.lostCount++;
            }
        }

        private void answer(Message read, int index) {
            if (!isAwake && index != 3) {
                read.turnIntoAnswer(NONE, 's');
            } else {
                read.turnIntoAnswer(registerValue(index), NO_ERROR);
                if (index == 0) {
                    lineRaised = NONE;
                }
            }
            list.append(read, tally.cycle);
        }

        private void setRegister(int index, int value) {
            if (index == 0) {
                doorbells = Math.min(MAX_DOORBELLS, doorbells + value);
            } else if (index == 1) {
                ringBase = value;
            } else if (index == 2) {
                if (value >= 1 && value <= MAX_RING) {
                    ringSize = value;
                }
            } else if (value == 0) {
                fallAsleep();
            } else {
                isAwake = true;
            }
        }

        private void fallAsleep() {
            isAwake = false;
            doorbells = 0;
            ringPlace = 0;
            state = 'i';
            lineRaised = NONE;
            awaited = 0;
        }

        void step() {
            if (!isAwake) {
                return;
            }
            if (state == 'i' && doorbells > 0 && ringSize > 0) {
                state = 'o';
            }
            switch (state) {
                case 'o': tryRead(ringAddress(0)); break;
                case 'a': tryRead(ringAddress(1)); break;
                case 'l': tryRead(ringAddress(2)); break;
                case 'f': tryRead(ringAddress(3)); break;
                case 'm': move(); break;
                case 'w': writeAndGoOn(ringAddress(2), block.moved, 'r'); break;
                case 'r': writeAndGoOn(ringAddress(0), 0, 'n'); break;
                case 'n': interrupt(); break;
                default: break;
            }
        }

        private int ringAddress(int part) {
            return ringBase + 4 * ringPlace + part;
        }

        private void writeAndGoOn(int address, int value, char next) {
            if (tryWrite(address, value)) {
                state = next;
            }
        }

        private void move() {
            int address = block.address + block.moved;
            if (block.isInward) {
                tryRead(address);
            } else if (dataCount > 0 && tryWrite(address, data[0])) {
                dropFirstValue();
                block.moved++;
                endBlockIfDone();
            }
        }

        private void dropFirstValue() {
            for (int i = 0; i + 1 < dataCount; i++) {
                data[i] = data[i + 1];
            }
            dataCount--;
        }

        private void endBlockIfDone() {
            boolean canMove = block.isInward ? gainedCount < DEVICE_ROOM : dataCount > 0;
            if (!canMove || block.moved >= block.length) {
                state = 'w';
            }
        }

        void finishRead(int value, char error) {
            if (error == NO_ERROR) {
                takeValue(value);
                return;
            }
            noteError(error);
            if (state == 'm') {
                state = 'w';
            } else {
                stop();
            }
        }

        private void takeValue(int value) {
            switch (state) {
                case 'o': takeOwner(value); break;
                case 'a': block.address = value; state = 'l'; break;
                case 'l': takeLength(value); break;
                case 'f': takeFlags(value); break;
                case 'm': takeMoved(value); break;
                default: break;
            }
        }

        private void takeOwner(int value) {
            if (value == 1) {
                state = 'a';
            } else {
                noteError('o');
                stop();
            }
        }

        private void takeLength(int value) {
            block.length = value;
            block.moved = 0;
            block.isInward = false;
            block.hasMore = false;
            if (value >= 1 && value <= MAX_BLOCK) {
                state = 'f';
            } else {
                noteError('l');
                state = 'w';
            }
        }

        private void takeFlags(int value) {
            block.isInward = (value & 1) != 0;
            block.hasMore = (value & 2) != 0;
            state = 'm';
            endBlockIfDone();
        }

        private void takeMoved(int value) {
            if (gainedCount < DEVICE_ROOM) {
                gained[gainedCount] = value;
                gainedCount++;
                block.moved++;
            }
            endBlockIfDone();
        }

        private void noteError(char error) {
            errorCount++;
            latestError = error;
        }

        private void stop() {
            doorbells = 0;
            state = 'i';
        }

        private void interrupt() {
            if (!block.hasMore) {
                if (messageAddress >= 0 && !tryWrite(messageAddress, 1)) {
                    return;
                }
                if (lineToRaise >= 0) {
                    raise();
                }
            }
            endDescriptor();
        }

        private void raise() {
            if (lineRaised != lineToRaise) {
                tally.bellCount++;
            }
            lineRaised = lineToRaise;
            raisedOrder = tally.nextOrder();
        }

        private void endDescriptor() {
            blockCount++;
            ringPlace = ringPlace + 1 < ringSize ? ringPlace + 1 : 0;
            doorbells = Math.max(0, doorbells - 1);
            state = 'i';
        }
    }
}
