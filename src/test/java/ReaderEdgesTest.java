/** The edges of what readers see, sentence by sentence: Terms, promises 21 to 23. */
public final class ReaderEdgesTest {
    private static final int NONE = -1, NO_LEVEL = -2000000;
    private static final Check check = new Check();

    private interface Change {
        int on(FeedDesk x);
    }

    public static void main(String[] args) {
        for (int side = 0; side < 2; side++) {
            eventsAtTheViewsEnd(side);
            newLevels(side);
            for (int level = 0; level < 3; level++) {
                oneNumberOfALevel(side, level);
            }
        }
        haltAlone();
        sameViewAgain();
        clearOfAnEmptyBook();
        takenBack();
        lastOfThirtyHeld();
        emptyRow();
        fullRow();
        placeInTheRow();
        asItIsNow();
        beforeAny();
        emptyView();
        onlyThreeLevels();
        readersBooks();
        check.end();
    }

    private static void send(FeedDesk x) {
        x.line(0, x.publish(), 0);
    }

    /** The n-th level's price: buys go down from 10, sells go up from 20. */
    private static int price(int side, int level) {
        return side == 0 ? 10 - 2 * level : 20 + 2 * level;
    }

    /** Four levels of each side of instrument 0, an order of size 5 each (ids 1 to 4, and 11 to 14); all is read. */
    private static FeedDesk fourLevels() {
        FeedDesk x = new FeedDesk();
        for (int side = 0; side < 2; side++) {
            for (int level = 0; level < 4; level++) {
                x.add(0, 1 + 10 * side + level, side, price(side, level), 5);
            }
            send(x);
        }
        check.due("read", x.read(0), 0);
        check.due("all is read", x.dirty(0), 0);
        return x;
    }

    private static void becomes(String told, int dirty, Change change) {
        FeedDesk x = fourLevels();
        check.holds(told + ": taken", change.on(x) > 0);
        send(x);
        check.due(told + ": dirty", x.dirty(0), dirty);
        check.due(told + ": read", x.read(0), dirty == 1 ? 0 : NONE);
    }

    private static void eventsAtTheViewsEnd(int side) {
        check.sentence("The VIEW is levels 0 to 2 of both sides");
        int first = 1 + 10 * side;
        for (int level = 0; level < 4; level++) {
            int id = first + level;
            int price = price(side, level);
            int due = level <= 2 ? 1 : 0;
            becomes("change in level " + level, due, x -> x.change(0, id, 4));
            becomes("execute in level " + level, due, x -> x.execute(0, id, 1));
            becomes("execute of level " + level, due, x -> x.execute(0, id, 5));
            becomes("cancel of level " + level, due, x -> x.cancel(0, id));
            becomes("add to level " + level, due, x -> x.add(0, 99, side, price, 1));
        }
    }

    private static void newLevels(int side) {
        check.sentence("The VIEW is levels 0 to 2 of both sides (a new level comes in)");
        int step = side == 0 ? 1 : -1;
        for (int level = 0; level < 4; level++) {
            int ahead = price(side, level) + step;
            becomes("add ahead of level " + level, level <= 2 ? 1 : 0, x -> x.add(0, 99, side, ahead, 5));
        }
        int behind = price(side, 3) - step;
        becomes("add behind level 3", 0, x -> x.add(0, 99, side, behind, 5));
        becomes("clear", 1, x -> x.clear(0));
    }

    /** What a snapshot shows after these changes, which no line brought: dirty or not. */
    private static void shows(String told, int dirty, Change... changes) {
        FeedDesk x = fourLevels();
        for (Change change : changes) {
            check.holds(told + ": taken", change.on(x) > 0);
        }
        x.snapshotTurn();
        check.due(told + ": the book becomes it", x.hearSnapshot(1, 0, 0), 1);
        check.due(told + ": dirty", x.dirty(0), dirty);
    }

    private static void oneNumberOfALevel(int side, int level) {
        check.sentence("(price, sum of sizes, how many orders)");
        int id = 1 + 10 * side + level;
        int price = price(side, level);
        int step = side == 0 ? 1 : -1;
        shows("only the price", 1, x -> x.cancel(0, id), x -> x.add(0, 99, side, price + step, 5));
        shows("only the sum", 1, x -> x.cancel(0, id), x -> x.add(0, 99, side, price, 6));
        shows("only how many", 1, x -> x.change(0, id, 3), x -> x.add(0, 99, side, price, 2));
        shows("another id alone", 0, x -> x.cancel(0, id), x -> x.add(0, 99, side, price, 5));
    }

    private static void haltAlone() {
        check.sentence("The VIEW is ... and HALTED");
        becomes("halt on", 1, x -> x.halt(0, true));
        shows("halt on in a snapshot", 1, x -> x.halt(0, true));
        shows("on and off again", 0, x -> x.halt(0, true), x -> x.halt(0, false));
        FeedDesk x = fourLevels();
        x.halt(0, true);
        send(x);
        x.read(0);
        x.halt(0, false);
        send(x);
        check.due("halt off", x.dirty(0), 1);
    }

    private static void sameViewAgain() {
        check.sentence("when an event or snapshot changes its view");
        FeedDesk x = fourLevels();
        x.snapshotTurn();
        check.due("no news", x.hearSnapshot(1, 0, 0), 0);
        check.due("not dirty", x.dirty(0), 0);
        x.cancel(0, 1);
        x.publish();
        check.due("published, but not heard", x.dirty(0), 0);
        x.cancel(0, 2);
        check.due("kept", x.line(0, x.publish(), 0), 2);
        check.due("not taken yet", x.dirty(0), 0);
        x.line(0, 3, 0);
        check.due("taken", x.dirty(0), 1);
        check.due("the second copy", x.line(1, 3, 0), 0);
        x.read(0);
        check.due("the second copy again", x.line(1, 4, 0), 0);
        check.due("not dirty again", x.dirty(0), 0);
    }

    private static void clearOfAnEmptyBook() {
        check.sentence("when an event or snapshot changes its view (an empty book's)");
        FeedDesk x = new FeedDesk();
        x.clear(0);
        send(x);
        check.due("clear", x.dirty(0), 0);
        x.clear(1);
        x.snapshotTurn();
        x.snapshotTurn();
        check.due("a snapshot of an empty book", x.hearSnapshot(2, 0, 0), 1);
        check.due("not dirty", x.dirty(0), 0);
        check.due("nothing to read", x.read(0), NONE);
    }

    private static void takenBack() {
        check.sentence("comes to its end when an event changes its view (though the next takes it back)");
        FeedDesk x = fourLevels();
        x.halt(0, true);
        x.halt(0, false);
        send(x);
        check.due("dirty", x.dirty(0), 1);
        check.due("read", x.read(0), 0);
        check.due("not halted", x.view(0, 2, 0, 0), 0);
    }

    private static void lastOfThirtyHeld() {
        check.sentence("comes to its end when an event changes its view (the last of 30 that were held)");
        FeedDesk x = new FeedDesk();
        Feeds.clears(x, 0, 1);
        x.snapshotTurn();
        Feeds.fullPackets(x, 0, 5);
        for (int n = 27; n <= 30; n++) {
            x.clear(0);
        }
        x.halt(0, true);
        x.publish();
        Feeds.fullPackets(x, 1, 8);
        x.line(0, 7, 0);
        for (int packet = 2; packet <= 6; packet++) {
            x.line(0, packet, 0);
        }
        x.askReplay(0);
        check.due("packet 1 is too old", x.serveReplay(0), 2);
        check.due("30 are held", x.receiver(0, 3), 30);
        check.due("not dirty", x.dirty(0), 0);
        check.due("the snapshot of event 1, as empty as the book", x.hearSnapshot(1, 0, 0), 1);
        check.due("AT", x.at(0, 0), 31);
        check.due("dirty", x.dirty(0), 1);
        check.due("read", x.read(0), 0);
        check.due("halted", x.view(0, 2, 0, 0), 1);
    }

    private static void emptyRow() {
        check.sentence("How many instruments are dirty; NONE when none is dirty");
        FeedDesk x = new FeedDesk();
        check.due("dirty", x.dirty(0), 0);
        check.due("read", x.read(0), NONE);
        x.halt(2, true);
        send(x);
        check.due("one is dirty", x.dirty(0), 1);
        check.due("it is read", x.read(0), 2);
        check.due("dirty", x.dirty(0), 0);
        check.due("read", x.read(0), NONE);
        check.due("the view that was fixed stays", x.view(0, 2, 0, 0), 1);
    }

    private static void fullRow() {
        check.sentence("A reader's instruments are DIRTY in a row");
        FeedDesk x = new FeedDesk();
        int[] order = {3, 1, 0, 2};
        for (int i = 0; i < 4; i++) {
            x.halt(order[i], true);
            send(x);
            check.due("dirty", x.dirty(0), i + 1);
        }
        x.halt(2, false);
        x.halt(3, false);
        send(x);
        check.due("all are dirty", x.dirty(0), 4);
        for (int i = 0; i < 4; i++) {
            check.due("read", x.read(0), order[i]);
            check.due("dirty", x.dirty(0), 3 - i);
            check.due("its own view", x.view(0, 2, 0, 0), order[i] < 2 ? 1 : 0);
        }
        check.due("no more", x.read(0), NONE);
    }

    private static void placeInTheRow() {
        check.sentence("one that is not comes to its end; Reading takes the first one");
        FeedDesk x = new FeedDesk();
        x.halt(0, true);
        x.halt(1, true);
        x.halt(2, true);
        send(x);
        x.halt(0, false);
        send(x);
        check.due("0 kept its place", x.read(0), 0);
        x.halt(0, true);
        x.halt(1, false);
        send(x);
        check.due("1 kept its place", x.read(0), 1);
        check.due("2 is ahead", x.read(0), 2);
        check.due("0 came to the end", x.read(0), 0);
        check.due("no more", x.read(0), NONE);
    }

    private static void asItIsNow() {
        check.sentence("fixes its view as it is now; only the latest view, and never miss the last one");
        FeedDesk x = fourLevels();
        for (int size = 4; size >= 1; size--) {
            x.change(0, 1, size);
            send(x);
        }
        check.due("dirty once", x.dirty(0), 1);
        check.due("read", x.read(0), 0);
        check.due("the last size", x.view(0, 0, 0, 1), 1);
        check.due("all is read", x.read(0), NONE);
        x.cancel(0, 1);
        send(x);
        check.due("fixed: the old price", x.view(0, 0, 0, 0), 10);
        check.due("read again", x.read(0), 0);
        check.due("the new price", x.view(0, 0, 0, 0), 8);
    }

    private static void noView(FeedDesk x, int reader, int halt) {
        for (int cell = 0; cell < 18; cell++) {
            check.due("cell " + cell, x.view(reader, cell / 9, cell / 3 % 3, cell % 3), NO_LEVEL);
        }
        check.due("the halt", x.view(reader, 2, 0, 0), halt);
    }

    private static void beforeAny() {
        check.sentence("NONE * 2000000 also before any");
        FeedDesk x = new FeedDesk();
        noView(x, 0, NO_LEVEL);
        noView(x, 1, NO_LEVEL);
        x.read(0);
        noView(x, 0, NO_LEVEL);
        x.add(0, 1, 0, 5, 5);
        x.halt(0, true);
        send(x);
        noView(x, 0, NO_LEVEL);
        x.read(0);
        check.due("the price", x.view(0, 0, 0, 0), 5);
        check.due("halted", x.view(0, 2, 0, 0), 1);
        noView(x, 1, NO_LEVEL);
    }

    private static void emptyView() {
        check.sentence("as best; for side 2: 1 when it was halted, else 0 (of an empty book)");
        FeedDesk x = fourLevels();
        x.clear(0);
        send(x);
        check.due("the view of before", x.view(0, 1, 2, 1), 5);
        check.due("read", x.read(0), 0);
        noView(x, 0, 0);
        x.halt(0, true);
        send(x);
        check.due("read", x.read(0), 0);
        noView(x, 0, 1);
    }

    private static void onlyThreeLevels() {
        check.sentence("Of the view that the reader fixed last, as best (level 0 .. 2)");
        FeedDesk x = fourLevels();
        x.add(0, 5, 0, 10, 2);
        x.add(0, 15, 1, 24, 3);
        send(x);
        check.due("read", x.read(0), 0);
        for (int side = 0; side < 2; side++) {
            for (int level = 0; level < 3; level++) {
                for (int what = 0; what < 3; what++) {
                    check.due("as best", x.view(0, side, level, what), x.best(0, 0, side, level, what));
                }
            }
        }
        check.due("the first sum", x.view(0, 0, 0, 1), 7);
        check.due("the last count", x.view(0, 1, 2, 2), 2);
        check.due("level 3 is not in it", x.view(0, 0, 3, 0), -4000000);
        check.due("though it is in the book", x.best(0, 0, 0, 3, 0), 4);
    }

    private static void readersBooks() {
        check.sentence("READER r reads receiver r's books");
        FeedDesk x = new FeedDesk();
        x.halt(1, true);
        x.publish();
        x.line(0, 1, 1);
        check.due("reader 0", x.dirty(0), 0);
        check.due("reader 1", x.dirty(1), 1);
        check.due("reader 0 reads", x.read(0), NONE);
        check.due("reader 1 reads", x.read(1), 1);
        check.due("reader 0's view", x.view(0, 2, 0, 0), NO_LEVEL);
        check.due("reader 1's view", x.view(1, 2, 0, 0), 1);
        x.line(0, 1, 0);
        check.due("reader 0 now", x.dirty(0), 1);
        check.due("reader 1 as before", x.dirty(1), 0);
    }
}
