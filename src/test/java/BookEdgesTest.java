/** The edges of books and of what they allow, sentence by sentence: Terms, promises 2 to 7 and 18 to 20. */
public final class BookEdgesTest {
    private static final int NONE = -1, REFUSED = -3, NO_LEVEL = -2000000;
    private static final int MOST = 1000000;
    private static final Check check = new Check();

    public static void main(String[] args) {
        for (int side = 0; side < 2; side++) {
            fullBook(side);
            emptySide(side);
            oneLevelOfAll(side);
            oneLevelEach(side);
            lastOrderOfALevel(side);
        }
        roomOfBothSides();
        roomComesBack();
        eachInstrumentHasRoom();
        bestPriceFirst();
        oneSideOfAPrice();
        placeInALevel();
        idOnNoOrder();
        idIsFreeAgain();
        changeIsBelow();
        executeIsAtMost();
        executeOfTheGreatest();
        haltedBook();
        haltChanges();
        clearOfAnyBook();
        numbersFromOne();
        check.end();
    }

    /** Closes the open packet, and lets both receivers hear it, so that their books are the publisher's. */
    private static void send(FeedDesk x) {
        int packet = x.publish();
        x.line(0, packet, 0);
        x.line(1, packet, 1);
    }

    /** Orders of one side with ids from 1 on, each of the size that is its id. */
    private static void fill(FeedDesk x, int instrument, int side, int orders, int price, int step) {
        for (int id = 1; id <= orders; id++) {
            x.add(instrument, id, side, price + (id - 1) * step, id);
            if (id % 5 == 0 || id == orders) {
                send(x);
            }
        }
    }

    private static void level(FeedDesk x, int side, int level, int price, int sum, int count) {
        for (int receiver = -1; receiver < 2; receiver++) {
            String told = "receiver " + receiver + ", side " + side + ", level " + level;
            check.due(told + ": price", x.best(receiver, 0, side, level, 0), price);
            check.due(told + ": sum", x.best(receiver, 0, side, level, 1), sum);
            check.due(told + ": orders", x.best(receiver, 0, side, level, 2), count);
        }
    }

    private static void noLevel(FeedDesk x, int side, int level) {
        level(x, side, level, NO_LEVEL, NO_LEVEL, NO_LEVEL);
    }

    private static void rows(FeedDesk x, int side, int... ids) {
        for (int receiver = -1; receiver < 2; receiver++) {
            for (int i = 0; i < ids.length; i++) {
                check.due("order " + i + " of side " + side, x.order(receiver, 0, side, i), ids[i]);
            }
            if (ids.length < 24) {
                check.due("none behind them", x.order(receiver, 0, side, ids.length), NONE);
            }
        }
    }

    private static void fullBook(int side) {
        check.sentence("A BOOK has ORDERS, at most 24");
        FeedDesk x = new FeedDesk();
        fill(x, 0, side, 23, 5, 0);
        check.due("order 24", x.add(0, 24, side, 5, 1), 24);
        check.due("order 25", x.add(0, 25, side, 5, 1), REFUSED);
        check.due("order 25 on the other side", x.add(0, 25, 1 - side, 5, 1), REFUSED);
        send(x);
        check.sentence("The id of the i-th order (0 .. 23)");
        for (int receiver = -1; receiver < 2; receiver++) {
            check.due("the first", x.order(receiver, 0, side, 0), 1);
            check.due("the last", x.order(receiver, 0, side, 23), 24);
            check.due("none on the other side", x.order(receiver, 0, 1 - side, 0), NONE);
        }
    }

    private static void emptySide(int side) {
        check.sentence("NONE * 2000000 when there is no such level; NONE");
        FeedDesk x = new FeedDesk();
        noLevel(x, side, 0);
        rows(x, side);
        x.add(0, 1, 1 - side, 5, 1);
        send(x);
        noLevel(x, side, 0);
        rows(x, side);
        rows(x, 1 - side, 1);
    }

    private static void oneLevelOfAll(int side) {
        check.sentence("A LEVEL is all orders of a side with one price");
        FeedDesk x = new FeedDesk();
        for (int id = 1; id <= 24; id++) {
            x.add(0, id, side, -MOST, MOST);
            if (id % 5 == 0 || id == 24) {
                send(x);
            }
        }
        level(x, side, 0, -MOST, 24 * MOST, 24);
        noLevel(x, side, 1);
    }

    private static void oneLevelEach(int side) {
        check.sentence("numbered from 0 in book order");
        FeedDesk x = new FeedDesk();
        fill(x, 0, side, 24, side == 0 ? 50 : -50, side == 0 ? -1 : 1);
        level(x, side, 0, side == 0 ? 50 : -50, 1, 1);
        level(x, side, 1, side == 0 ? 49 : -49, 2, 1);
        level(x, side, 23, side == 0 ? 27 : -27, 24, 1);
        noLevel(x, side, 24);
    }

    private static void lastOrderOfALevel(int side) {
        check.sentence("a level ends with its last order");
        FeedDesk x = new FeedDesk();
        fill(x, 0, side, 2, 7, 0);
        x.add(0, 3, side, side == 0 ? 6 : 8, 9);
        x.cancel(0, 1);
        send(x);
        level(x, side, 0, 7, 2, 1);
        x.execute(0, 2, 2);
        send(x);
        level(x, side, 0, side == 0 ? 6 : 8, 9, 1);
        noLevel(x, side, 1);
        x.clear(0);
        send(x);
        noLevel(x, side, 0);
    }

    private static void roomOfBothSides() {
        check.sentence("A BOOK has ORDERS, at most 24 (of both sides together)");
        FeedDesk x = new FeedDesk();
        fill(x, 0, 0, 12, 5, 0);
        for (int id = 13; id <= 23; id++) {
            x.add(0, id, 1, 6, 1);
            if (id % 5 == 0) {
                send(x);
            }
        }
        check.due("order 24", x.add(0, 24, 1, 6, 1), 24);
        check.due("a buy more", x.add(0, 25, 0, 6, 1), REFUSED);
        send(x);
        check.due("a sell more", x.add(0, 25, 1, 6, 1), REFUSED);
        rows(x, 0, 1, 2, 3, 4, 5, 6, 7, 8, 9, 10, 11, 12);
        rows(x, 1, 13, 14, 15, 16, 17, 18, 19, 20, 21, 22, 23, 24);
    }

    private static void roomComesBack() {
        check.sentence("add: there is room");
        FeedDesk x = new FeedDesk();
        fill(x, 0, 0, 24, 5, 0);
        x.change(0, 24, 1);
        check.due("a change makes none", x.add(0, 25, 0, 5, 1), REFUSED);
        x.execute(0, 23, 22);
        check.due("a part of an execution makes none", x.add(0, 25, 0, 5, 1), REFUSED);
        x.execute(0, 23, 1);
        check.due("an execution of all does", x.add(0, 25, 0, 5, 1), 28);
        check.due("for one", x.add(0, 26, 0, 5, 1), REFUSED);
        x.cancel(0, 1);
        send(x);
        check.due("a cancel does", x.add(0, 26, 1, 5, 1), 30);
        check.due("for one", x.add(0, 27, 0, 5, 1), REFUSED);
        x.clear(0);
        for (int id = 1; id <= 24; id++) {
            if (id % 5 == 4) {
                send(x);
            }
            check.due("a clear does for 24", x.add(0, id, 1, 5, 1), 31 + id);
        }
        check.due("and no more", x.add(0, 25, 1, 5, 1), REFUSED);
    }

    private static void eachInstrumentHasRoom() {
        check.sentence("A BOOK has ORDERS, at most 24 (each instrument's)");
        FeedDesk x = new FeedDesk();
        for (int instrument = 0; instrument < 4; instrument++) {
            fill(x, instrument, instrument % 2, 24, 5, 0);
        }
        for (int instrument = 0; instrument < 4; instrument++) {
            check.due("order 25", x.add(instrument, 25, 0, 5, 1), REFUSED);
            check.due("24 are there", x.order(1, instrument, instrument % 2, 23), 24);
        }
    }

    private static void bestPriceFirst() {
        check.sentence("the best price first (the highest of buys, the lowest of sells)");
        int[] prices = {0, -MOST, 1, MOST, -1};
        FeedDesk x = new FeedDesk();
        for (int side = 0; side < 2; side++) {
            for (int i = 0; i < 5; i++) {
                x.add(0, 1 + i + 10 * side, side, prices[i], 1);
            }
            send(x);
        }
        rows(x, 0, 4, 3, 1, 5, 2);
        rows(x, 1, 12, 15, 11, 13, 14);
        level(x, 0, 0, MOST, 1, 1);
        level(x, 0, 4, -MOST, 1, 1);
        level(x, 1, 0, -MOST, 1, 1);
        level(x, 1, 4, MOST, 1, 1);
        noLevel(x, 0, 5);
    }

    private static void oneSideOfAPrice() {
        check.sentence("all orders of a side with one price (not of both sides)");
        FeedDesk x = new FeedDesk();
        x.add(0, 1, 0, 7, 3);
        x.add(0, 2, 1, 7, 4);
        send(x);
        level(x, 0, 0, 7, 3, 1);
        level(x, 1, 0, 7, 4, 1);
    }

    private static void placeInALevel() {
        check.sentence("of one price the one that came first; change: the place is kept");
        FeedDesk x = new FeedDesk();
        x.add(0, 9, 0, 7, 5);
        x.add(0, 8, 0, 7, 5);
        x.add(0, 7, 0, 7, 5);
        send(x);
        rows(x, 0, 9, 8, 7);
        x.change(0, 9, 1);
        x.change(0, 8, 4);
        x.execute(0, 8, 3);
        send(x);
        rows(x, 0, 9, 8, 7);
        x.cancel(0, 9);
        x.add(0, 9, 0, 7, 5);
        x.execute(0, 8, 1);
        x.add(0, 8, 0, 7, 5);
        send(x);
        rows(x, 0, 7, 9, 8);
    }

    private static void idOnNoOrder() {
        check.sentence("add: the id is on none of its orders");
        FeedDesk x = new FeedDesk();
        x.add(0, 1, 0, 5, 5);
        check.due("the very same", x.add(0, 1, 0, 5, 5), REFUSED);
        check.due("at another price", x.add(0, 1, 0, 6, 5), REFUSED);
        check.due("on the other side", x.add(0, 1, 1, 5, 5), REFUSED);
        x.change(0, 1, 1);
        check.due("of the least size", x.add(0, 1, 0, 5, 1), REFUSED);
        check.due("another id", x.add(0, 2, 0, 5, 5), 3);
        check.due("in another instrument", x.add(1, 1, 0, 5, 5), 1);
    }

    private static void idIsFreeAgain() {
        check.sentence("add: the id is on none of its orders (any more)");
        FeedDesk x = new FeedDesk();
        x.add(0, 1, 0, 5, 5);
        x.cancel(0, 1);
        check.due("after a cancel", x.add(0, 1, 1, 5, 5), 3);
        x.execute(0, 1, 5);
        check.due("after an execution of all", x.add(0, 1, 0, 5, 5), 5);
        send(x);
        x.clear(0);
        check.due("after a clear", x.add(0, 1, 1, 5, 5), 7);
        send(x);
        rows(x, 0);
        rows(x, 1, 1);
    }

    private static void changeIsBelow() {
        check.sentence("change: there, and the new size is below its own");
        FeedDesk x = new FeedDesk();
        check.due("none is there", x.change(0, 1, 1), REFUSED);
        x.add(0, 1, 0, 5, MOST);
        check.due("as much", x.change(0, 1, MOST), REFUSED);
        check.due("one less", x.change(0, 1, MOST - 1), 2);
        check.due("as much as before", x.change(0, 1, MOST), REFUSED);
        check.due("as much as now", x.change(0, 1, MOST - 1), REFUSED);
        x.change(0, 1, 2);
        check.due("the least", x.change(0, 1, 1), 4);
        send(x);
        level(x, 0, 0, 5, 1, 1);
        check.due("no less is there", x.change(0, 1, 1), REFUSED);
        check.due("elsewhere", x.change(1, 1, 1), REFUSED);
        x.cancel(0, 1);
        check.due("gone", x.change(0, 1, 1), REFUSED);
    }

    private static void executeIsAtMost() {
        check.sentence("execute: there, and its size is at least that; at 0 the order is gone");
        FeedDesk x = new FeedDesk();
        check.due("none is there", x.execute(0, 1, 1), REFUSED);
        x.add(0, 1, 1, 5, 5);
        check.due("one more than it has", x.execute(0, 1, 6), REFUSED);
        check.due("all but one", x.execute(0, 1, 4), 2);
        send(x);
        level(x, 1, 0, 5, 1, 1);
        check.due("one more than it has now", x.execute(0, 1, 2), REFUSED);
        check.due("all of it", x.execute(0, 1, 1), 3);
        check.due("gone", x.execute(0, 1, 1), REFUSED);
        check.due("elsewhere", x.execute(1, 1, 1), REFUSED);
        send(x);
        rows(x, 1);
    }

    private static void executeOfTheGreatest() {
        check.sentence("execute (so much less)");
        FeedDesk x = new FeedDesk();
        x.add(0, 1, 0, 5, MOST);
        x.add(0, 2, 0, 5, MOST);
        x.execute(0, 1, MOST);
        x.execute(0, 2, MOST - 1);
        send(x);
        rows(x, 0, 2);
        level(x, 0, 0, 5, 1, 1);
    }

    private static void haltedBook() {
        check.sentence("execute: not HALTED");
        FeedDesk x = new FeedDesk();
        x.add(0, 1, 0, 5, 5);
        x.add(1, 1, 0, 5, 5);
        x.halt(0, true);
        check.due("a part", x.execute(0, 1, 1), REFUSED);
        check.due("all", x.execute(0, 1, 5), REFUSED);
        check.due("in a book that is not halted", x.execute(1, 1, 5), 2);
        check.due("change", x.change(0, 1, 4), 3);
        send(x);
        check.due("add", x.add(0, 2, 0, 5, 5), 4);
        check.due("cancel", x.cancel(0, 2), 5);
        check.due("the end of the halt", x.halt(0, false), 6);
        check.due("execute again", x.execute(0, 1, 4), 7);
    }

    private static void haltChanges() {
        check.sentence("halt: it changes");
        FeedDesk x = new FeedDesk();
        check.due("off while off", x.halt(0, false), REFUSED);
        check.due("on", x.halt(0, true), 1);
        check.due("on while on", x.halt(0, true), REFUSED);
        check.due("on in another instrument", x.halt(1, true), 1);
        send(x);
        for (int receiver = -1; receiver < 2; receiver++) {
            check.due("halted", x.halted(receiver, 0), 1);
            check.due("not halted", x.halted(receiver, 2), 0);
        }
        check.due("off", x.halt(0, false), 2);
        check.due("off while off again", x.halt(0, false), REFUSED);
        send(x);
        for (int receiver = -1; receiver < 2; receiver++) {
            check.due("not halted any more", x.halted(receiver, 0), 0);
            check.due("the other is still", x.halted(receiver, 1), 1);
        }
    }

    private static void clearOfAnyBook() {
        check.sentence("clear (all orders go, the halt stays); never REFUSED");
        FeedDesk x = new FeedDesk();
        check.due("an empty book", x.clear(0), 1);
        check.due("again", x.clear(0), 2);
        send(x);
        check.due("not halted", x.halted(0, 0), 0);
        fill(x, 0, 0, 24, 5, 1);
        x.halt(0, true);
        check.due("a full and halted book", x.clear(0), 28);
        check.due("an empty and halted one", x.clear(0), 29);
        send(x);
        rows(x, 0);
        noLevel(x, 0, 0);
        for (int receiver = -1; receiver < 2; receiver++) {
            check.due("halted", x.halted(receiver, 0), 1);
        }
    }

    private static void numbersFromOne() {
        check.sentence("An event has its number in its instrument (from 1)");
        FeedDesk x = new FeedDesk();
        for (int instrument = 0; instrument < 4; instrument++) {
            check.due("the first", x.clear(instrument), 1);
        }
        check.due("the second", x.add(3, 1, 0, 5, 5), 2);
        check.due("a full one takes no number", x.clear(3), -4);
        send(x);
        check.due("nor does a refused one", x.add(3, 1, 0, 5, 5), REFUSED);
        check.due("nor a wrong one", x.add(3, 0, 0, 5, 5), -2);
        check.due("the third", x.cancel(3, 1), 3);
        check.sentence("at: of receiver NONE the publisher: how many events there are");
        check.due("those of the open packet, too", x.at(NONE, 3), 3);
        check.due("of a receiver, those that are applied", x.at(0, 3), 2);
    }
}
