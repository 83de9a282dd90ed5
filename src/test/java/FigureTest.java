/** Promises 56 to 61: means and shares, what must always be true, and the line. */
public final class FigureTest {
    public static void main(String[] args) {
        meanAsks();
        busyShare();
        busiestShare();
        isConsistent();
        writeAgent();
        writeLists();
        lineAt();
        Check.end();
    }

    private static void meanAsks() {
        BusHandler x = new BusHandler();
        Check.thrown("no cycle", Check.ARITHMETIC, () -> x.meanAsks());
        x.run(1);
        Check.due("no agent", x.meanAsks(), 0.0);

        BusHandler y = new BusHandler();
        y.addBridge(0, 500, 100);
        y.setArbiter(1, true);
        for (int k = 1; k < 3; k++) {
            y.addProcessor(1);
            y.setRank(k, 9);
            for (int n = 0; n < 16; n++) {
                y.addWrite(k, 510, 0);
            }
        }
        for (int k = 3; k < 6; k++) {
            y.addProcessor(0);
            y.addRead(k, 501);
        }
        y.run(7);
        Check.due("from the cycle 4 on one asks again", y.asksOf(5), 4);
        Check.due("4 in 7 cycles", y.meanAsks(), 4.0 / 7.0);
        y.addProcessor(0);
        y.addRead(6, 501);
        y.run(3);
        Check.due("of all agents", y.meanAsks(), 9.0 / 10.0);
    }

    private static void busyShare() {
        BusHandler x = new BusHandler();
        x.addProcessor(0);
        x.addBridge(0, 500, 100);
        Check.thrown("no such bus", Check.OUT, () -> x.busyShare(2));
        Check.thrown("no such bus", Check.OUT, () -> x.busyShare(-1));
        Check.thrown("no cycle", Check.ARITHMETIC, () -> x.busyShare(0));
        x.addWrite(0, 500, 0);
        x.addWrite(0, 900, 0);
        x.run(7);
        Check.due("two messages", x.busyShare(0), 2.0f / 7.0f);
        Check.due("one message", x.busyShare(1), 1.0f / 7.0f);
        Check.thrown("still no such bus", Check.OUT, () -> x.busyShare(2));
    }

    private static void busiestShare() {
        BusHandler x = new BusHandler();
        Check.thrown("no cycle", Check.ARITHMETIC, () -> x.busiestShare());
        x.run(1);
        Check.due("nothing went", x.busiestShare(), 0.0f);
        x.addProcessor(0);
        x.addBridge(0, 500, 100);
        x.addProcessor(1);
        x.addWrite(0, 900, 0);
        x.run(2);
        Check.due("the bus 0", x.busiestShare(), 1.0f / 3.0f);
        x.addWrite(2, 500, 0);
        x.addWrite(2, 500, 0);
        x.run(4);
        Check.due("the bus 1", x.busiestShare(), 2.0f / 7.0f);
    }

    private static void isConsistent() {
        BusHandler x = new BusHandler();
        Check.due("a new board", x.isConsistent(), true);
        x.addMemory(0, 0, 128);
        x.addProcessor(0);
        x.addBridge(0, 500, 100);
        x.addMemory(1, 500, 5);
        for (int n = 0; n < 100; n++) {
            x.put(0, n, n);
            x.put(0, n / 2, 9999 - n);
        }
        for (int n = 0; n < 8; n++) {
            x.addWrite(1, n, 3);
            x.addWrite(1, 500 + n, 3);
        }
        for (int n = 0; n < 30; n++) {
            x.run(1);
            Check.due("on the way", x.isConsistent(), true);
        }
        x.spoil(0, 7);
        Check.due("a spoilt cell keeps its value", x.isConsistent(), true);
    }

    private static void writeAgent() {
        BusHandler x = new BusHandler();
        Check.thrown("no agent", Check.OUT, () -> x.writeAgent(0));
        x.addMemory(0, 0, 16);
        x.addProcessor(0);
        x.addDevice(0, 100);
        x.addRouter(0, 160);
        x.addBridge(0, 200, 100);
        x.addProcessor(1);
        Check.thrown("no agent", Check.OUT, () -> x.writeAgent(6));
        Check.thrown("no agent", Check.OUT, () -> x.writeAgent(-1));
        Check.due("length", x.writeAgent(1), 16);
        Check.due("memory", Check.lineOf(x, 0), "0 memory bus0");
        Check.due("processor", Check.lineOf(x, 1), "1 processor bus0");
        Check.due("device", Check.lineOf(x, 2), "2 device bus0");
        Check.due("router", Check.lineOf(x, 3), "3 router bus0");
        Check.due("bridge", Check.lineOf(x, 4), "4 bridge bus0");
        Check.due("on the bus 1", Check.lineOf(x, 5), "5 processor bus1");
        x.pull(2);
        Check.due("a pulled device", Check.lineOf(x, 2), "2 device bus0");
        for (int k = 6; k < 11; k++) {
            x.addProcessor(1);
        }
        Check.due("two digits", Check.lineOf(x, 10), "10 processor bus1");
    }

    private static void writeLists() {
        BusHandler x = new BusHandler();
        x.addProcessor(0);
        x.addProcessor(0);
        x.addBridge(0, 200, 100);
        x.addProcessor(1);
        x.setArbiter(0, true);
        x.setArbiter(1, true);
        x.setRank(0, 9);
        x.setRank(1, 8);
        x.setRank(3, 9);
        x.addWrite(0, 217, 5);
        x.addRead(0, 203);
        x.addRead(1, 900);
        x.addWrite(1, 1023, 5);
        x.addWrite(3, 0, 7);
        x.addRead(3, 900);
        x.run(3);
        Check.due("first what leads up, then what leads down", Check.lineOf(x, 2),
            "2 bridge bus0 w0 q900 w217 q203");
        Check.due("length", x.writeAgent(2), 31);
        Check.due("a read", Check.lineOf(x, 1), "1 processor bus0 q900");
        x.run(1);
        Check.due("an answer has no address", Check.lineOf(x, 2), "2 bridge bus0 w0 q900 q203");
        x.run(1);
        x.run(1);
        Check.due("the answer of nobody came up behind the read", Check.lineOf(x, 2), "2 bridge bus0 q900 a");
    }

    private static void lineAt() {
        BusHandler x = new BusHandler();
        Check.thrown("empty at first", Check.OUT, () -> x.lineAt(0));
        x.addProcessor(0);
        x.addMemory(0, 0, 8);
        Check.thrown("still empty", Check.OUT, () -> x.lineAt(0));
        x.addWrite(0, 1023, 9);
        x.run(1);
        Check.due("length", x.writeAgent(0), 22);
        Check.due("first", x.lineAt(0), '0');
        Check.due("blank", x.lineAt(1), ' ');
        Check.due("last", x.lineAt(21), '3');
        Check.thrown("behind it", Check.OUT, () -> x.lineAt(22));
        Check.thrown("ahead of it", Check.OUT, () -> x.lineAt(-1));
        Check.thrown("no agent", Check.OUT, () -> x.writeAgent(2));
        Check.due("the line stays", x.lineAt(17), 'w');
        x.run(1);
        Check.due("also in cycles", x.lineAt(17), 'w');
        x.writeAgent(1);
        Check.due("a shorter line", x.lineAt(12), '0');
        Check.thrown("behind the shorter line", Check.OUT, () -> x.lineAt(13));
    }
}
