import java.util.List;

/** "Refused calls change nothing": beside wrong numbers (NumbersTest), each call that is answered and does nothing. */
public final class RefusedTest {
    private static final int NONE = -1, REFUSED = -3, FULL = -4;
    private static final Check check = new Check();

    private interface Start {
        FeedDesk desk();
    }

    private interface Call {
        int on(FeedDesk x);
    }

    private final Start start;
    private final List<Integer> look, use;

    /** Calls on desks that are all brought to the same state. */
    private RefusedTest(Start start) {
        this.start = start;
        look = Probe.look(start.desk());
        use = Probe.use(start.desk());
    }

    private RefusedTest idle(String told, int due, Call call) {
        FeedDesk x = start.desk();
        check.due(told, call.on(x), due);
        check.holds(told + ": nothing that can be asked for is changed", Probe.look(x).equals(look));
        FeedDesk y = start.desk();
        check.due(told, call.on(y), due);
        check.holds(told + ": nothing that comes out later is changed", Probe.use(y).equals(use));
        return this;
    }

    public static void main(String[] args) {
        refusedEvents();
        fullPacket();
        refusedAheadOfFull();
        fullBook();
        fourHundredEvents();
        nothingToDo();
        hearingNothing();
        snapshotsOfNothing();
        asking();
        check.end();
    }

    private static void refusedEvents() {
        check.sentence("REFUSED (the book doesn't allow it)");
        new RefusedTest(Feeds::busy)
                .idle("add of an id on the same side", REFUSED, x -> x.add(0, 1, 0, 11, 9))
                .idle("add of an id on the other side", REFUSED, x -> x.add(0, 1, 1, 11, 9))
                .idle("change to its own size", REFUSED, x -> x.change(0, 1, 3))
                .idle("change to a greater size", REFUSED, x -> x.change(0, 1, 4))
                .idle("change of no order", REFUSED, x -> x.change(0, 2, 1))
                .idle("execute of more than its size", REFUSED, x -> x.execute(0, 1, 4))
                .idle("execute while halted", REFUSED, x -> x.execute(2, 4, 1))
                .idle("execute of no order", REFUSED, x -> x.execute(0, 2, 1))
                .idle("cancel of no order", REFUSED, x -> x.cancel(0, 2))
                .idle("halt on while it is on", REFUSED, x -> x.halt(2, true))
                .idle("halt off while it is off", REFUSED, x -> x.halt(0, false));
    }

    private static FeedDesk busyWithFullPacket() {
        FeedDesk x = Feeds.busy();
        x.add(0, 8, 1, 50, 5);
        x.add(2, 9, 0, 29, 5);
        x.halt(1, true);
        return x;
    }

    private static void fullPacket() {
        check.sentence("FULL (the open packet has 5)");
        new RefusedTest(RefusedTest::busyWithFullPacket)
                .idle("add", FULL, x -> x.add(3, 10, 0, 1, 1))
                .idle("change", FULL, x -> x.change(0, 8, 1))
                .idle("execute", FULL, x -> x.execute(0, 8, 5))
                .idle("cancel", FULL, x -> x.cancel(0, 8))
                .idle("halt on", FULL, x -> x.halt(0, true))
                .idle("halt off", FULL, x -> x.halt(1, false))
                .idle("clear", FULL, x -> x.clear(0))
                .idle("clear of an empty book", FULL, x -> x.clear(3));
    }

    private static void refusedAheadOfFull() {
        check.sentence("in this order: WRONG, REFUSED (the book doesn't allow it), FULL");
        new RefusedTest(RefusedTest::busyWithFullPacket)
                .idle("wrong, not full: add", -2, x -> x.add(3, 10, 0, 1, 0))
                .idle("wrong, not full: change", -2, x -> x.change(0, 8, 0))
                .idle("wrong, not full: execute", -2, x -> x.execute(0, 8, 0))
                .idle("wrong, not full: cancel", -2, x -> x.cancel(0, 0))
                .idle("wrong, not full: halt", -2, x -> x.halt(4, true))
                .idle("wrong, not full: clear", -2, x -> x.clear(4))
                .idle("wrong, not refused: add", -2, x -> x.add(0, 8, 0, 1, 0))
                .idle("wrong, not refused: change", -2, x -> x.change(0, 77, 0))
                .idle("wrong, not refused: execute", -2, x -> x.execute(0, 77, 0))
                .idle("wrong, not refused: cancel", -2, x -> x.cancel(4, 77))
                .idle("wrong, not refused: halt", -2, x -> x.halt(-1, false))
                .idle("refused, not full: add", REFUSED, x -> x.add(0, 8, 0, 1, 1))
                .idle("refused, not full: change", REFUSED, x -> x.change(0, 8, 5))
                .idle("refused, not full: execute", REFUSED, x -> x.execute(0, 8, 6))
                .idle("refused, not full: cancel", REFUSED, x -> x.cancel(0, 77))
                .idle("refused, not full: halt", REFUSED, x -> x.halt(1, true));
    }

    private static FeedDesk fullBookDesk() {
        FeedDesk x = new FeedDesk();
        for (int id = 1; id <= 24; id++) {
            x.add(1, id, id % 2, id % 4, id);
            if (id % 5 == 0) {
                x.line(0, x.publish(), 0);
            }
        }
        return x;
    }

    private static void fullBook() {
        check.sentence("there is room");
        new RefusedTest(RefusedTest::fullBookDesk)
                .idle("a buy more", REFUSED, x -> x.add(1, 25, 0, 9, 1))
                .idle("a sell more", REFUSED, x -> x.add(1, 25, 1, 9, 1))
                .idle("one that is there", REFUSED, x -> x.add(1, 24, 0, 9, 1));
    }

    /** So many calls make these events that little can be asked for: 480 of 512. */
    private static void fourHundredEvents() {
        check.sentence("FULL (there are 400)");
        Call[] calls = {x -> x.add(0, 9, 1, 1, 1), x -> x.change(0, 1, 1), x -> x.execute(0, 1, 1),
            x -> x.cancel(0, 1), x -> x.halt(0, true), x -> x.halt(1, false), x -> x.clear(0)};
        FeedDesk x = new FeedDesk();
        x.add(0, 1, 0, 5, 2);
        x.halt(1, true);
        for (int n = 3; n <= 400; n++) {
            x.clear(n % 2 + 2);
            if (n % 5 == 0) {
                x.publish();
            }
        }
        for (Call call : calls) {
            check.due("no event 401", call.on(x), FULL);
        }
        check.due("nothing to publish", x.publish(), 0);
        check.due("the size stays", x.best(-1, 0, 0, 0, 1), 2);
        check.due("no sell came", x.order(-1, 0, 1, 0), NONE);
        check.due("the number of events stays", x.at(-1, 0), 1);
        check.due("not halted", x.halted(-1, 0), 0);
        check.due("halted", x.halted(-1, 1), 1);
        check.due("wrong, not full", x.add(0, 0, 0, 1, 1), -2);
        check.due("refused, not full", x.add(0, 1, 0, 1, 1), REFUSED);
    }

    private static FeedDesk busyWithoutOpenPacket() {
        FeedDesk x = Feeds.busy();
        x.publish();
        x.serveReplay(0);
        x.serveReplay(1);
        for (int i = 0; i < 4; i++) {
            x.read(0);
            x.read(1);
        }
        return x;
    }

    private static void nothingToDo() {
        check.sentence("0 when it has no events; 0 when it has asked for nothing; NONE when none is dirty");
        new RefusedTest(RefusedTest::busyWithoutOpenPacket)
                .idle("publish", 0, FeedDesk::publish)
                .idle("serveReplay of 0", 0, x -> x.serveReplay(0))
                .idle("serveReplay of 1", 0, x -> x.serveReplay(1))
                .idle("read of 0", NONE, x -> x.read(0))
                .idle("read of 1", NONE, x -> x.read(1));
        new RefusedTest(FeedDesk::new)
                .idle("new: publish", 0, FeedDesk::publish)
                .idle("new: askReplay", 0, x -> x.askReplay(1))
                .idle("new: serveReplay", 0, x -> x.serveReplay(1))
                .idle("new: read", NONE, x -> x.read(1));
    }

    private static void hearingNothing() {
        check.sentence("0 nothing; 2 kept (also when it was already)");
        new RefusedTest(Feeds::busy)
                .idle("NEXT - 1 on the same line", 0, x -> x.line(0, 1, 0))
                .idle("NEXT - 1 on the other line", 0, x -> x.line(1, 1, 0))
                .idle("one that was given up", 0, x -> x.line(0, 1, 1))
                .idle("a kept one on the same line", 2, x -> x.line(0, 3, 0))
                .idle("a kept one on the other line", 2, x -> x.line(1, 3, 0));
    }

    private static void snapshotsOfNothing() {
        check.sentence("With a piece missing it is nothing");
        new RefusedTest(Feeds::busy)
                .idle("newer, without its piece", 0, x -> x.hearSnapshot(1, 0, 1))
                .idle("the need's cover, without its piece", 0, x -> x.hearSnapshot(2, 1, 1));
        check.sentence("0 nothing is changed");
        new RefusedTest(() -> {
            FeedDesk x = Feeds.busy();
            x.hearSnapshot(1, 0, 0);
            x.hearSnapshot(2, 1, 0);
            return x;
        })
                .idle("heard before", 0, x -> x.hearSnapshot(1, 0, 0))
                .idle("heard before, and the need covered", 0, x -> x.hearSnapshot(2, 1, 0));
    }

    private static void asking() {
        check.sentence("what is asked about a desk does not change it");
        RefusedTest all = new RefusedTest(Feeds::busy);
        all.idle("packetByte", 4, x -> x.packetByte(1, 4)).idle("packetByte", NONE, x -> x.packetByte(11, 0))
                .idle("sound", 0, x -> x.sound(0, 0)).idle("at", 2, x -> x.at(0, 0)).idle("at", 3, x -> x.at(1, 0))
                .idle("receiver", 2, x -> x.receiver(0, 2)).idle("best", 10, x -> x.best(0, 0, 0, 0, 0))
                .idle("order", 2, x -> x.order(0, 0, 0, 1)).idle("halted", 1, x -> x.halted(0, 2))
                .idle("dirty", 2, x -> x.dirty(0)).idle("view", 10, x -> x.view(0, 0, 0, 0));
        // To ask again for the same gap is to ask for it.
        all.idle("askReplay", 1, x -> x.askReplay(0)).idle("askReplay", 2, x -> x.askReplay(1));
    }
}
