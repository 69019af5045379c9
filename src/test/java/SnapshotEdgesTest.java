/** The edges of snapshots, sentence by sentence: Terms, promises 13 and 14. */
public final class SnapshotEdgesTest {
    private static final int WRONG = -2;
    private static final Check check = new Check();

    public static void main(String[] args) {
        turns();
        lastEight();
        openPacketToo();
        coversWhatIsClosed();
        coversMoreThanIsNeeded();
        for (int orders = 0; orders <= 24; orders++) {
            pieces(orders);
        }
        missingPieceIsNothing();
        for (int events = 1; events <= 7; events++) {
            aboveAt(events);
            heldEvents(events);
        }
        bookBecomesIt();
        bookBecomesEmpty();
        answers();
        check.end();
    }

    private static void turns() {
        check.sentence("A snapshot of the next instrument (0 first, 0 behind 3): its number, from 1");
        FeedDesk x = new FeedDesk();
        for (int instrument = 0; instrument < 4; instrument++) {
            x.add(instrument, 10 + instrument, 0, 5, 5);
        }
        for (int number = 1; number <= 9; number++) {
            int instrument = (number - 1) % 4;
            check.due("snapshotTurn", x.snapshotTurn(), number);
            check.due("hearSnapshot", x.hearSnapshot(number, 0, 0), number <= 4 ? 1 : 0);
            check.due("its instrument", x.order(0, instrument, 0, 0), 10 + instrument);
            check.due("the next has nothing yet", x.order(0, (instrument + 1) % 4, 0, 0),
                    number < 4 ? -1 : 10 + (instrument + 1) % 4);
        }
        check.due("snapshot 9 is of instrument 0", x.hearSnapshot(9, 1, 0), 1);
        check.due("its order", x.order(1, 0, 0, 0), 10);
        check.due("snapshot 8 is of instrument 3", x.hearSnapshot(8, 1, 0), 1);
        check.due("its order", x.order(1, 3, 0, 0), 13);
    }

    private static void lastEight() {
        check.sentence("The last 8 snapshots can be heard; WRONG (also when it is not among the last 8)");
        FeedDesk x = new FeedDesk();
        check.due("none is made yet", x.hearSnapshot(1, 0, 0), WRONG);
        for (int last = 1; last <= 25; last++) {
            x.snapshotTurn();
            check.due("number 0", x.hearSnapshot(0, 0, 0), WRONG);
            check.due("the first of them", x.hearSnapshot(Math.max(1, last - 7), 0, 0), 0);
            check.due("ahead of them", x.hearSnapshot(Math.max(0, last - 8), 0, 0), WRONG);
            check.due("the last of them", x.hearSnapshot(last, 0, 0), 0);
            check.due("behind them", x.hearSnapshot(last + 1, 0, 0), WRONG);
            check.due("ahead of them, without a piece", x.hearSnapshot(Math.max(0, last - 8), 0, 1), WRONG);
        }
        FeedDesk y = new FeedDesk();
        y.add(0, 1, 0, 5, 5);
        y.snapshotTurn();
        y.cancel(0, 1);
        for (int number = 2; number <= 8; number++) {
            y.snapshotTurn();
        }
        check.due("the eighth from the end is as it was", y.hearSnapshot(1, 0, 0), 1);
        check.due("its order", y.order(0, 0, 0, 0), 1);
        y.snapshotTurn();
        check.due("it can be heard no more", y.hearSnapshot(1, 1, 0), WRONG);
        check.due("nothing was heard", y.at(1, 0), 0);
    }

    private static void openPacketToo() {
        check.sentence("its book as the publisher has it now (events of the open packet, too), how many events that are");
        FeedDesk x = new FeedDesk();
        x.add(0, 1, 0, 5, 5);
        x.publish();
        for (int n = 2; n <= 6; n++) {
            x.add(0, n, 0, 5, 5);
        }
        x.snapshotTurn();
        x.publish();
        x.add(0, 7, 0, 5, 5);
        check.due("heard", x.hearSnapshot(1, 0, 0), 1);
        check.due("AT", x.at(0, 0), 6);
        check.due("the last of the open packet", x.order(0, 0, 0, 5), 6);
        check.due("what came later is not there", x.order(0, 0, 0, 6), -1);
    }

    private static void coversWhatIsClosed() {
        check.sentence("which packets it COVERS: all that are closed; if it covers what the instrument needs");
        FeedDesk x = new FeedDesk();
        Feeds.clears(x, 0, 1);
        for (int number = 1; number <= 4; number++) {
            x.snapshotTurn();
        }
        x.clear(0);
        x.snapshotTurn();
        x.publish();
        for (int number = 6; number <= 8; number++) {
            x.snapshotTurn();
        }
        Feeds.clears(x, 0, 1);
        Feeds.fullPackets(x, 1, 8);
        x.line(0, 3, 0);
        check.due("1 and 2", x.askReplay(0), 2);
        check.due("too old: 2 must be covered", x.serveReplay(0), 2);
        check.due("1 is covered, event 1 comes", x.hearSnapshot(1, 0, 0), 1);
        check.due("that is not enough", x.sound(0, 0), 0);
        check.due("2 was open: its event comes", x.hearSnapshot(5, 0, 0), 1);
        check.due("AT, with the held one", x.at(0, 0), 3);
        check.due("but it is not covered", x.sound(0, 0), 0);
        for (int instrument = 1; instrument < 4; instrument++) {
            check.due("1 is covered, no event comes", x.hearSnapshot(instrument + 1, 0, 0), 0);
            check.due("that is not enough", x.sound(0, instrument), 0);
            check.due("2 is covered", x.hearSnapshot(instrument + 5, 0, 0), 2);
            check.due("that is enough", x.sound(0, instrument), 1);
        }
        x.snapshotTurn();
        check.due("more is covered than needed", x.hearSnapshot(9, 0, 0), 2);
        check.due("that is enough", x.sound(0, 0), 1);
    }

    private static void coversMoreThanIsNeeded() {
        check.sentence("if it covers what the instrument needs, that is needed no more");
        FeedDesk x = Feeds.needy(0);
        x.snapshotTurn();
        check.due("it covers 10, and 1 is needed", x.hearSnapshot(1, 0, 0), 1);
        check.due("needed no more", x.sound(0, 0), 1);
        check.due("only of its own instrument", x.sound(0, 1), 0);
        check.due("a receiver without need", x.hearSnapshot(1, 1, 0), 1);
        check.due("sound as it was", x.sound(1, 0), 1);
    }

    private static void pieces(int orders) {
        check.sentence("It goes in pieces of up to 3 orders (at least one); without its piece skip"
                + " (from 1; 0, or one that it doesn't have: all)");
        FeedDesk x = new FeedDesk();
        x.halt(0, true);
        x.publish();
        for (int id = 1; id <= orders; id++) {
            x.add(0, id, id % 2, 5, 5);
            if (id % 5 == 0) {
                x.publish();
            }
        }
        x.snapshotTurn();
        int pieces = orders <= 3 ? 1 : (orders + 2) / 3;
        for (int piece = 1; piece <= pieces; piece++) {
            check.due(orders + " orders, without piece " + piece, x.hearSnapshot(1, 0, piece), 0);
        }
        check.due("nothing is changed", x.at(0, 0), 0);
        check.due("not halted", x.halted(0, 0), 0);
        check.due(orders + " orders, a piece behind the last", x.hearSnapshot(1, 0, pieces + 1), 1);
        check.due("all is heard", x.at(0, 0), orders + 1);
        check.due("halted", x.halted(0, 0), 1);
        check.due(orders + " orders, all pieces", x.hearSnapshot(1, 1, 0), 1);
        check.due("all is heard", x.at(1, 0), orders + 1);
    }

    private static void missingPieceIsNothing() {
        check.sentence("With a piece missing it is nothing");
        FeedDesk x = new FeedDesk();
        for (int id = 1; id <= 5; id++) {
            x.add(0, id, 0, 5, 5);
        }
        x.publish();
        Feeds.clears(x, 1, 1);
        x.add(0, 6, 0, 5, 5);
        x.publish();
        Feeds.fullPackets(x, 1, 8);
        x.line(0, 3, 0);
        x.askReplay(0);
        check.due("too old", x.serveReplay(0), 2);
        x.snapshotTurn();
        for (int piece = 1; piece <= 2; piece++) {
            check.due("without piece " + piece, x.hearSnapshot(1, 0, piece), 0);
            check.due("AT", x.at(0, 0), 0);
            check.due("no order", x.order(0, 0, 0, 0), -1);
            check.due("one is held", x.receiver(0, 3), 1);
            check.due("the need stays", x.sound(0, 0), 0);
            check.due("not dirty", x.dirty(0), 0);
        }
        check.due("whole", x.hearSnapshot(1, 0, 3), 1);
        check.due("AT", x.at(0, 0), 6);
        check.due("none is held", x.receiver(0, 3), 0);
        check.due("sound", x.sound(0, 0), 1);
        check.due("dirty", x.dirty(0), 1);
    }

    /** Event n of instrument 0 adds order n, in packet n, for 1 to 7; snapshot 1 was made after so many. */
    private static FeedDesk sevenPackets(int events) {
        FeedDesk x = new FeedDesk();
        for (int n = 1; n <= 7; n++) {
            x.add(0, n, 0, 100 - n, 1);
            x.publish();
            if (n == events) {
                x.snapshotTurn();
            }
        }
        return x;
    }

    private static void aboveAt(int events) {
        check.sentence("if its number of events is above AT, the book becomes it, AT too");
        for (int at = 0; at <= 7; at++) {
            FeedDesk x = sevenPackets(events);
            for (int packet = 1; packet <= at; packet++) {
                x.line(0, packet, 0);
            }
            int after = Math.max(at, events);
            check.due(events + " events, AT " + at, x.hearSnapshot(1, 0, 0), events > at ? 1 : 0);
            check.due("AT", x.at(0, 0), after);
            check.due("the last order", x.order(0, 0, 0, after - 1), after);
            check.due("no more", x.order(0, 0, 0, after), -1);
            check.due("NEXT stays", x.receiver(0, 0), at + 1);
        }
    }

    /** Packets 1, 3 and 6 were too old: events 2, 4, 5 and 7 are held. */
    private static FeedDesk holding(int events) {
        FeedDesk x = sevenPackets(events);
        Feeds.fullPackets(x, 1, 8);
        int[] heard = {2, 4, 5, 7};
        for (int packet : heard) {
            x.line(0, packet, 0);
            x.askReplay(0);
            x.serveReplay(0);
        }
        return x;
    }

    private static void heldEvents(int events) {
        check.sentence("held events up to it go and those that follow are applied");
        int[] at = {0, 2, 2, 5, 5, 5, 7, 7};
        int[] held = {4, 3, 3, 1, 1, 1, 0, 0};
        FeedDesk x = holding(events);
        check.due("NEXT", x.receiver(0, 0), 8);
        check.due("held", x.receiver(0, 3), 4);
        check.due("a snapshot of " + events + " events", x.hearSnapshot(1, 0, 0), 1);
        check.due("AT", x.at(0, 0), at[events]);
        check.due("held", x.receiver(0, 3), held[events]);
        for (int i = 0; i < at[events]; i++) {
            check.due("order " + i, x.order(0, 0, 0, i), i + 1);
        }
        check.due("no more", x.order(0, 0, 0, at[events]), -1);
        check.due("it covers packet " + events + ", and 6 is needed", x.sound(0, 0), events >= 6 ? 1 : 0);
    }

    private static void bookBecomesIt() {
        check.sentence("in book order, buys first (as full as a book can be)");
        FeedDesk x = new FeedDesk();
        for (int id = 24; id >= 1; id--) {
            x.add(0, id, id % 2, id % 3, id);
            if (id % 5 == 0 || id == 1) {
                x.publish();
            }
        }
        x.snapshotTurn();
        check.due("heard", x.hearSnapshot(1, 0, 0), 1);
        for (int side = 0; side < 2; side++) {
            for (int i = 0; i < 12; i++) {
                check.due("order " + i, x.order(0, 0, side, i), x.order(-1, 0, side, i));
            }
            check.due("no more", x.order(0, 0, side, 12), -1);
            for (int level = 0; level < 4; level++) {
                for (int what = 0; what < 3; what++) {
                    check.due("level " + level, x.best(0, 0, side, level, what), x.best(-1, 0, side, level, what));
                }
            }
        }
        check.due("the best buy that came first", x.order(0, 0, 0, 0), 20);
        check.due("the best sell that came first", x.order(0, 0, 1, 0), 21);
    }

    private static void bookBecomesEmpty() {
        check.sentence("the book becomes it (an empty one, and the halt's end)");
        FeedDesk x = new FeedDesk();
        x.add(0, 1, 0, 5, 5);
        x.add(0, 2, 1, 6, 5);
        x.halt(0, true);
        x.line(0, x.publish(), 0);
        x.clear(0);
        x.halt(0, false);
        x.snapshotTurn();
        check.due("heard", x.hearSnapshot(1, 0, 0), 1);
        check.due("no buys", x.order(0, 0, 0, 0), -1);
        check.due("no sells", x.order(0, 0, 1, 0), -1);
        check.due("not halted", x.halted(0, 0), 0);
        check.due("AT", x.at(0, 0), 5);
    }

    private static void answers() {
        check.sentence("0 nothing is changed, 1 the book becomes it (perhaps a need is covered, too), 2 only a need");
        FeedDesk x = Feeds.needy(0);
        for (int packet = 3; packet <= 10; packet++) {
            x.line(0, packet, 0);
        }
        for (int number = 1; number <= 4; number++) {
            x.snapshotTurn();
        }
        check.due("the book and a need", x.hearSnapshot(1, 0, 0), 1);
        check.due("again", x.hearSnapshot(1, 0, 0), 0);
        check.due("only a need: as many events as AT", x.hearSnapshot(2, 0, 0), 2);
        check.due("again", x.hearSnapshot(2, 0, 0), 0);
        check.due("only a need: no events at all", x.hearSnapshot(3, 0, 0), 2);
        check.due("again", x.hearSnapshot(3, 0, 0), 0);
        check.due("only the book", x.hearSnapshot(1, 1, 0), 1);
        check.due("neither", x.hearSnapshot(3, 1, 0), 0);
        Feeds.clears(x, 3, 1);
        x.line(0, 11, 0);
        check.due("only a need: fewer events than AT", x.hearSnapshot(4, 0, 0), 2);
        check.due("AT stays", x.at(0, 3), 1);
        check.due("sound", x.sound(0, 3), 1);
    }
}
