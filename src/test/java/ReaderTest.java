/** Promises 21 to 23: dirty, read, view. */
public final class ReaderTest {
    private static final int NO_LEVEL = -2000000, WRONG_LEVEL = -4000000;
    private static final Check check = new Check();

    public static void main(String[] args) {
        wrongNumbers();
        beforeAny();
        rowOfDirtyOnes();
        onlyTheLatestView();
        theViewIsFixed();
        whatTheViewDoesNotShow();
        whatTheViewShows();
        eachEventCounts();
        snapshotsCount();
        heldEventsCount();
        thirtyHeldEventsFollow();
        readersAreApart();
        check.end();
    }

    private static void wrongNumbers() {
        FeedDesk x = new FeedDesk();
        int[] wrong = {-1, 2, Integer.MIN_VALUE, Integer.MAX_VALUE};
        for (int reader : wrong) {
            check.due("dirty of a wrong reader", x.dirty(reader), -2);
            check.due("read of a wrong reader", x.read(reader), -2);
            check.due("view of a wrong reader", x.view(reader, 0, 0, 0), WRONG_LEVEL);
        }
        wrongViews(x);
        x.halt(0, true);
        send(x);
        x.read(0);
        wrongViews(x);
    }

    private static void wrongViews(FeedDesk x) {
        int[][] wrong = {{-1, 0, 0}, {3, 0, 0}, {0, -1, 0}, {0, 3, 0}, {1, 3, 0}, {0, 0, -1}, {0, 0, 3}, {2, 1, 0},
            {2, 0, 1}, {2, -1, 0}, {2, 0, -1}, {0, Integer.MAX_VALUE, 0}, {Integer.MIN_VALUE, 0, 0}};
        for (int[] a : wrong) {
            check.due("view of wrong numbers", x.view(0, a[0], a[1], a[2]), WRONG_LEVEL);
        }
    }

    /** Closes the open packet, and lets receiver 0 hear it. */
    private static void send(FeedDesk x) {
        x.line(0, x.publish(), 0);
    }

    private static void beforeAny() {
        FeedDesk x = new FeedDesk();
        check.due("no view: a level", x.view(0, 1, 2, 2), NO_LEVEL);
        check.due("no view: the halt", x.view(0, 2, 0, 0), NO_LEVEL);
        check.due("nothing to read", x.read(0), -1);
        check.due("still no view", x.view(0, 2, 0, 0), NO_LEVEL);
        x.add(0, 1, 0, 1, 1);
        send(x);
        check.due("not read yet", x.view(0, 0, 0, 0), NO_LEVEL);
        check.due("the halt neither", x.view(0, 2, 0, 0), NO_LEVEL);
        check.due("read", x.read(0), 0);
        check.due("not halted", x.view(0, 2, 0, 0), 0);
    }

    private static void rowOfDirtyOnes() {
        FeedDesk x = new FeedDesk();
        x.add(2, 1, 0, 1, 1);
        x.add(0, 1, 0, 1, 1);
        x.add(3, 1, 0, 1, 1);
        x.add(2, 2, 0, 1, 1);
        send(x);
        check.due("three are dirty", x.dirty(0), 3);
        check.due("2 came first", x.read(0), 2);
        check.due("two are left", x.dirty(0), 2);
        x.add(2, 3, 0, 1, 1);
        x.add(1, 3, 0, 1, 1);
        x.add(0, 3, 0, 1, 1);
        send(x);
        check.due("all are dirty", x.dirty(0), 4);
        check.due("0 keeps its place", x.read(0), 0);
        check.due("then 3", x.read(0), 3);
        check.due("2 came to the end again", x.read(0), 2);
        check.due("then 1", x.read(0), 1);
        check.due("no more", x.read(0), -1);
        check.due("none is dirty", x.dirty(0), 0);
    }

    private static void level(FeedDesk x, int side, int level, int price, int sum, int count) {
        String told = "view of side " + side + ", level " + level;
        check.due(told + ": price", x.view(0, side, level, 0), price);
        check.due(told + ": sum", x.view(0, side, level, 1), sum);
        check.due(told + ": orders", x.view(0, side, level, 2), count);
    }

    private static void onlyTheLatestView() {
        FeedDesk x = new FeedDesk();
        x.add(1, 1, 0, 10, 5);
        send(x);
        x.add(1, 2, 0, 11, 6);
        x.add(1, 3, 1, 12, 7);
        x.add(1, 4, 0, 9, 1);
        x.add(1, 5, 0, 8, 1);
        x.add(1, 6, 0, 11, 1);
        send(x);
        check.due("one is dirty", x.dirty(0), 1);
        check.due("read", x.read(0), 1);
        level(x, 0, 0, 11, 7, 2);
        level(x, 0, 1, 10, 5, 1);
        level(x, 0, 2, 9, 1, 1);
        level(x, 1, 0, 12, 7, 1);
        level(x, 1, 1, NO_LEVEL, NO_LEVEL, NO_LEVEL);
        check.due("the last view was read", x.read(0), -1);
    }

    private static void theViewIsFixed() {
        FeedDesk x = new FeedDesk();
        x.add(1, 1, 0, 10, 5);
        x.add(2, 1, 1, 20, 6);
        x.halt(2, true);
        send(x);
        check.due("read 1", x.read(0), 1);
        x.cancel(1, 1);
        x.halt(1, true);
        send(x);
        level(x, 0, 0, 10, 5, 1);
        check.due("not halted then", x.view(0, 2, 0, 0), 0);
        check.due("read 2", x.read(0), 2);
        level(x, 0, 0, NO_LEVEL, NO_LEVEL, NO_LEVEL);
        level(x, 1, 0, 20, 6, 1);
        check.due("halted", x.view(0, 2, 0, 0), 1);
        check.due("read 1 again", x.read(0), 1);
        level(x, 1, 0, NO_LEVEL, NO_LEVEL, NO_LEVEL);
        check.due("halted now", x.view(0, 2, 0, 0), 1);
        check.due("nothing to read", x.read(0), -1);
        check.due("the view stays", x.view(0, 2, 0, 0), 1);
    }

    private static void whatTheViewDoesNotShow() {
        FeedDesk x = new FeedDesk();
        x.clear(0);
        send(x);
        check.due("a clear of an empty book", x.dirty(0), 0);
        x.add(0, 1, 0, 10, 5);
        x.add(0, 2, 0, 9, 5);
        x.add(0, 3, 0, 8, 5);
        send(x);
        x.read(0);
        x.add(0, 4, 0, 7, 5);
        x.change(0, 4, 4);
        x.execute(0, 4, 1);
        send(x);
        check.due("level 3", x.dirty(0), 0);
        x.cancel(0, 4);
        send(x);
        check.due("level 3 goes", x.dirty(0), 0);
        x.cancel(0, 1);
        x.publish();
        check.due("what is not heard", x.dirty(0), 0);
        x.cancel(0, 2);
        check.due("early", x.line(0, x.publish(), 0), 2);
        check.due("what is kept", x.dirty(0), 0);
        check.due("the publisher's open packet", x.cancel(0, 3) > 0 ? x.dirty(0) : NO_LEVEL, 0);
    }

    private static void whatTheViewShows() {
        FeedDesk x = new FeedDesk();
        x.add(0, 1, 0, 10, 5);
        x.add(0, 2, 0, 9, 5);
        x.add(0, 3, 0, 8, 5);
        x.add(0, 4, 0, 7, 5);
        send(x);
        int read = x.read(0);
        x.execute(0, 3, 1);
        read = sendAndRead(x, "an execution in level 2", read);
        x.change(0, 2, 1);
        read = sendAndRead(x, "a change in level 1", read);
        x.add(0, 5, 0, 10, 1);
        read = sendAndRead(x, "an add to level 0", read);
        x.cancel(0, 2);
        read = sendAndRead(x, "a cancel, so that level 3 comes up", read);
        x.add(0, 6, 1, 10, 1);
        read = sendAndRead(x, "the first sell", read);
        x.halt(0, true);
        read = sendAndRead(x, "a halt", read);
        x.halt(0, false);
        read = sendAndRead(x, "the halt's end", read);
        x.clear(0);
        sendAndRead(x, "a clear", read);
    }

    private static int sendAndRead(FeedDesk x, String told, int before) {
        check.due("read before " + told, before, 0);
        send(x);
        check.due(told, x.dirty(0), 1);
        return x.read(0);
    }

    private static void eachEventCounts() {
        FeedDesk x = new FeedDesk();
        x.add(3, 1, 0, 10, 5);
        x.cancel(3, 1);
        send(x);
        check.due("an event and one that takes it back", x.dirty(0), 1);
        check.due("read", x.read(0), 3);
        check.due("the view is empty", x.view(0, 0, 0, 0), NO_LEVEL);
    }

    private static void snapshotsCount() {
        FeedDesk x = new FeedDesk();
        x.add(0, 1, 0, 10, 5);
        x.snapshotTurn();
        check.due("with a piece missing", x.hearSnapshot(1, 0, 1), 0);
        check.due("not dirty", x.dirty(0), 0);
        check.due("whole", x.hearSnapshot(1, 0, 0), 1);
        check.due("dirty", x.dirty(0), 1);
        check.due("read", x.read(0), 0);
        check.due("the price", x.view(0, 0, 0, 0), 10);
        x.add(0, 2, 0, 10, 5);
        x.cancel(0, 1);
        for (int i = 0; i < 4; i++) {
            x.snapshotTurn();
        }
        check.due("other orders, the same view", x.hearSnapshot(5, 0, 0), 1);
        check.due("the book is new", x.order(0, 0, 0, 0), 2);
        check.due("not dirty", x.dirty(0), 0);
        check.due("a snapshot without events", x.hearSnapshot(2, 0, 0), 0);
        check.due("not dirty", x.dirty(0), 0);
    }

    private static void heldEventsCount() {
        FeedDesk x = new FeedDesk();
        Feeds.clears(x, 0, 1);
        x.snapshotTurn();
        x.add(0, 1, 0, 10, 5);
        x.publish();
        x.cancel(0, 1);
        x.publish();
        Feeds.fullPackets(x, 1, 8);
        x.line(0, 2, 0);
        x.line(0, 3, 0);
        x.askReplay(0);
        check.due("too old", x.serveReplay(0), 2);
        check.due("two are held", x.receiver(0, 3), 2);
        check.due("not dirty", x.dirty(0), 0);
        check.due("the snapshot, as empty as the book", x.hearSnapshot(1, 0, 0), 1);
        check.due("the held ones followed", x.at(0, 0), 3);
        check.due("dirty by the first of them", x.dirty(0), 1);
    }

    private static void thirtyHeldEventsFollow() {
        FeedDesk x = new FeedDesk();
        Feeds.clears(x, 0, 1);
        x.snapshotTurn();
        Feeds.fullPackets(x, 0, 5);
        for (int i = 0; i < 4; i++) {
            x.clear(0);
        }
        x.add(0, 1, 0, 10, 5);
        x.publish();
        Feeds.fullPackets(x, 1, 8);
        for (int packet = 2; packet <= 7; packet++) {
            x.line(0, packet, 0);
        }
        x.askReplay(0);
        check.due("too old", x.serveReplay(0), 2);
        check.due("thirty are held", x.receiver(0, 3), 30);
        check.due("the snapshot of event 1", x.hearSnapshot(1, 0, 0), 1);
        check.due("all thirty followed", x.at(0, 0), 31);
        check.due("none is held", x.receiver(0, 3), 0);
        check.due("the last of them is not missed", x.dirty(0), 1);
        check.due("read", x.read(0), 0);
        check.due("its price", x.view(0, 0, 0, 0), 10);
    }

    private static void readersAreApart() {
        FeedDesk x = new FeedDesk();
        x.add(0, 1, 0, 10, 5);
        send(x);
        check.due("reader 1", x.dirty(1), 0);
        check.due("nothing to read", x.read(1), -1);
        x.line(0, 1, 1);
        check.due("reader 1 now", x.dirty(1), 1);
        check.due("reader 0 reads", x.read(0), 0);
        check.due("reader 1 has it still", x.dirty(1), 1);
        check.due("reader 1 has no view", x.view(1, 0, 0, 0), NO_LEVEL);
        check.due("reader 1 reads", x.read(1), 0);
        check.due("and sees it", x.view(1, 0, 0, 0), 10);
    }
}
