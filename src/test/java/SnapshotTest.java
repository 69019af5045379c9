/** Promises 13 and 14: snapshotTurn, hearSnapshot. */
public final class SnapshotTest {
    private static final Check check = new Check();

    public static void main(String[] args) {
        wrongNumbers();
        turns();
        lastEight();
        bookBecomesIt();
        olderOnesAreNothing();
        pieces();
        heldEventsFollow();
        heldEventsAllGo();
        onlyANeedIsCovered();
        needIsNotCovered();
        coversClosedPackets();
        itStaysAsItWas();
        check.end();
    }

    private static void wrongNumbers() {
        FeedDesk x = new FeedDesk();
        x.add(0, 1, 0, 1, 1);
        x.snapshotTurn();
        int[][] wrong = {{0, 0}, {2, 0}, {-1, 0}, {1, -1}, {1, 2}, {Integer.MAX_VALUE, 0}, {Integer.MIN_VALUE, 0}};
        for (int[] a : wrong) {
            check.due("hearSnapshot of wrong numbers", x.hearSnapshot(a[0], a[1], 0), -2);
            check.due("with a piece missing, too", x.hearSnapshot(a[0], a[1], 1), -2);
        }
        check.due("nothing was heard", x.at(0, 0), 0);
    }

    private static void turns() {
        FeedDesk x = new FeedDesk();
        for (int i = 0; i < 4; i++) {
            x.add(i, i + 1, 0, i, 1);
        }
        for (int n = 1; n <= 6; n++) {
            check.due("snapshotTurn", x.snapshotTurn(), n);
        }
        for (int n = 1; n <= 4; n++) {
            check.due("snapshot " + n, x.hearSnapshot(n, 0, 0), 1);
            for (int i = 0; i < 4; i++) {
                check.due("instrument " + i, x.order(0, i, 0, 0), i < n ? i + 1 : -1);
            }
        }
        check.due("snapshot 5 is of instrument 0 again", x.hearSnapshot(5, 1, 0), 1);
        check.due("its book", x.order(1, 0, 0, 0), 1);
        check.due("not instrument 1", x.order(1, 1, 0, 0), -1);
    }

    private static void lastEight() {
        FeedDesk x = new FeedDesk();
        x.add(0, 1, 0, 1, 1);
        for (int n = 1; n <= 8; n++) {
            x.snapshotTurn();
        }
        check.due("the eighth from the end", x.hearSnapshot(1, 0, 0), 1);
        x.snapshotTurn();
        check.due("the ninth from the end", x.hearSnapshot(1, 1, 0), -2);
        check.due("the next is of instrument 1, which has no events", x.hearSnapshot(2, 1, 0), 0);
        check.due("the last", x.hearSnapshot(9, 1, 0), 1);
        check.due("none behind it", x.hearSnapshot(10, 1, 0), -2);
    }

    private static void bookBecomesIt() {
        FeedDesk x = new FeedDesk();
        x.add(0, 5, 1, 7, 2);
        x.add(0, 6, 0, 7, 3);
        x.add(0, 4, 0, 7, 4);
        x.publish();
        x.halt(0, true);
        x.snapshotTurn();
        check.due("heard", x.hearSnapshot(1, 1, 0), 1);
        check.due("AT counts the open packet", x.at(1, 0), 4);
        check.due("the halt", x.halted(1, 0), 1);
        check.due("the first buy came first", x.order(1, 0, 0, 0), 6);
        check.due("the second", x.order(1, 0, 0, 1), 4);
        check.due("no third", x.order(1, 0, 0, 2), -1);
        check.due("the sell", x.order(1, 0, 1, 0), 5);
        check.due("sum", x.best(1, 0, 0, 0, 1), 7);
        check.due("NEXT stays", x.receiver(1, 0), 1);
        check.due("HIGHEST stays", x.receiver(1, 1), 0);
        check.due("again it is nothing", x.hearSnapshot(1, 1, 0), 0);
        x.add(0, 3, 0, 7, 1);
        x.publish();
        x.line(0, 1, 1);
        check.due("packet 2", x.line(0, 2, 1), 1);
        check.due("AT", x.at(1, 0), 5);
        check.due("the new order comes last", x.order(1, 0, 0, 2), 3);
    }

    private static void olderOnesAreNothing() {
        FeedDesk x = new FeedDesk();
        check.due("a snapshot of no events", x.snapshotTurn(), 1);
        check.due("is nothing", x.hearSnapshot(1, 0, 0), 0);
        x.add(0, 1, 0, 1, 1);
        x.publish();
        for (int i = 0; i < 4; i++) {
            x.snapshotTurn();
        }
        x.cancel(0, 1);
        x.publish();
        x.line(0, 1, 0);
        check.due("as many events", x.hearSnapshot(5, 0, 0), 0);
        x.line(0, 2, 0);
        check.due("fewer events", x.hearSnapshot(5, 0, 0), 0);
        check.due("AT stays", x.at(0, 0), 2);
        check.due("the book stays", x.order(0, 0, 0, 0), -1);
    }

    private static void pieces() {
        int[] orders = {0, 1, 3, 4, 6, 7, 24};
        int[] due = {1, 1, 1, 2, 2, 3, 8};
        for (int k = 0; k < orders.length; k++) {
            FeedDesk x = new FeedDesk();
            x.clear(0);
            for (int id = 1; id <= orders[k]; id++) {
                x.add(0, id, id % 2, id, 1);
                if (id % 4 == 0) {
                    x.publish();
                }
            }
            x.snapshotTurn();
            String told = orders[k] + " orders, ";
            for (int piece = 1; piece <= due[k]; piece++) {
                check.due(told + "without piece " + piece, x.hearSnapshot(1, 0, piece), 0);
            }
            check.due(told + "nothing was changed", x.at(0, 0), 0);
            check.due(told + "nor is it dirty", x.dirty(0), 0);
            check.due(told + "without one behind the last", x.hearSnapshot(1, 0, due[k] + 1), 1);
            check.due(told + "AT", x.at(0, 0), 1 + orders[k]);
            check.due(told + "without none", x.hearSnapshot(1, 1, 0), 1);
        }
        FeedDesk y = new FeedDesk();
        y.clear(0);
        y.snapshotTurn();
        check.due("without piece -1, which it doesn't have", y.hearSnapshot(1, 0, -1), 1);
        check.due("without a far piece", y.hearSnapshot(1, 1, Integer.MAX_VALUE), 1);
        FeedDesk z = Feeds.needy(0);
        z.snapshotTurn();
        check.due("with a piece missing no need is covered", z.hearSnapshot(1, 0, 1), 0);
        check.due("not sound", z.sound(0, 0), 0);
    }

    /** Receiver 0 misses packet 1; events 2, 3 (an add) and 4 of instrument 0 are held. */
    private static FeedDesk holding() {
        FeedDesk x = new FeedDesk();
        x.add(0, 1, 0, 1, 1);
        x.publish();
        x.add(0, 2, 0, 2, 2);
        x.publish();
        x.snapshotTurn();
        x.add(0, 3, 0, 3, 3);
        x.publish();
        x.cancel(0, 2);
        x.publish();
        Feeds.fullPackets(x, 1, 8);
        for (int packet = 2; packet <= 4; packet++) {
            x.line(0, packet, 0);
        }
        x.askReplay(0);
        x.serveReplay(0);
        return x;
    }

    private static void heldEventsFollow() {
        FeedDesk x = holding();
        check.due("three are held", x.receiver(0, 3), 3);
        check.due("a snapshot after event 2", x.hearSnapshot(1, 0, 0), 1);
        check.due("3 and 4 follow", x.at(0, 0), 4);
        check.due("none is held", x.receiver(0, 3), 0);
        check.due("the best", x.order(0, 0, 0, 0), 3);
        check.due("the next", x.order(0, 0, 0, 1), 1);
        check.due("2 is cancelled", x.order(0, 0, 0, 2), -1);
        check.due("it covers packet 2, and 1 was needed", x.sound(0, 0), 1);
        check.due("others need theirs", x.sound(0, 1), 0);
    }

    private static void heldEventsAllGo() {
        FeedDesk x = holding();
        for (int i = 0; i < 4; i++) {
            x.snapshotTurn();
        }
        check.due("a snapshot after event 4", x.hearSnapshot(5, 0, 0), 1);
        check.due("AT", x.at(0, 0), 4);
        check.due("none is held", x.receiver(0, 3), 0);
        check.due("2 is cancelled", x.order(0, 0, 0, 2), -1);
        for (int packet = 5; packet <= 12; packet++) {
            x.line(0, packet, 0);
        }
        x.add(0, 9, 0, 9, 9);
        check.due("what is new goes on", x.line(0, x.publish(), 0), 1);
        check.due("AT", x.at(0, 0), 5);
        check.due("the new order", x.order(0, 0, 0, 0), 9);
    }

    private static void onlyANeedIsCovered() {
        FeedDesk x = Feeds.needy(0);
        for (int packet = 3; packet <= 10; packet++) {
            x.line(0, packet, 0);
        }
        for (int i = 0; i < 4; i++) {
            x.snapshotTurn();
        }
        check.due("instrument 1 has all its events", x.at(0, 1), 40);
        check.due("but a need", x.sound(0, 1), 0);
        check.due("only that is covered", x.hearSnapshot(2, 0, 0), 2);
        check.due("sound", x.sound(0, 1), 1);
        check.due("again it is nothing", x.hearSnapshot(2, 0, 0), 0);
        check.due("instrument 2 has no events", x.hearSnapshot(3, 0, 0), 2);
        check.due("sound", x.sound(0, 2), 1);
        check.due("instrument 0: both", x.hearSnapshot(1, 0, 0), 1);
        check.due("sound", x.sound(0, 0), 1);
        check.due("again it is nothing", x.hearSnapshot(1, 0, 0), 0);
        check.due("not yet sound", x.sound(0, 3), 0);
        check.due("instrument 3", x.hearSnapshot(4, 0, 0), 2);
        check.due("nothing became dirty by it", x.read(0) == 3 ? 1 : 0, 0);
    }

    private static void needIsNotCovered() {
        FeedDesk x = new FeedDesk();
        x.clear(0);
        x.publish();
        for (int i = 0; i < 4; i++) {
            x.snapshotTurn();
        }
        x.clear(0);
        x.publish();
        x.snapshotTurn();
        Feeds.clears(x, 0, 1);
        Feeds.fullPackets(x, 1, 8);
        x.line(0, 3, 0);
        check.due("1 and 2", x.askReplay(0), 2);
        check.due("too old", x.serveReplay(0), 2);
        check.due("covers packet 1 alone", x.hearSnapshot(1, 0, 0), 1);
        check.due("not sound", x.sound(0, 0), 0);
        check.due("event 2 is missing still", x.at(0, 0), 1);
        check.due("of instrument 1, covering 1 alone", x.hearSnapshot(2, 0, 0), 0);
        check.due("not sound", x.sound(0, 1), 0);
        check.due("covers packet 2", x.hearSnapshot(5, 0, 0), 1);
        check.due("sound", x.sound(0, 0), 1);
        check.due("event 3 followed", x.at(0, 0), 3);
    }

    private static void coversClosedPackets() {
        FeedDesk x = new FeedDesk();
        x.clear(1);
        x.snapshotTurn();
        x.publish();
        x.snapshotTurn();
        Feeds.clears(x, 1, 1);
        Feeds.fullPackets(x, 1, 8);
        x.line(0, 2, 1);
        x.askReplay(1);
        check.due("packet 1 is too old", x.serveReplay(1), 2);
        check.due("made while packet 1 was open: not covered", x.hearSnapshot(1, 1, 0), 0);
        check.due("made when it was closed", x.hearSnapshot(2, 1, 0), 1);
        check.due("sound", x.sound(1, 1), 1);
    }

    private static void itStaysAsItWas() {
        FeedDesk x = new FeedDesk();
        x.add(0, 1, 0, 1, 5);
        x.snapshotTurn();
        x.execute(0, 1, 2);
        x.add(0, 2, 0, 2, 2);
        x.halt(0, true);
        check.due("heard later", x.hearSnapshot(1, 0, 0), 1);
        check.due("AT", x.at(0, 0), 1);
        check.due("the old size", x.best(0, 0, 0, 0, 1), 5);
        check.due("the old order", x.order(0, 0, 0, 0), 1);
        check.due("the old halt", x.halted(0, 0), 0);
        x.publish();
        x.line(0, 1, 0);
        check.due("the receiver goes on", x.at(0, 0), 4);
        check.due("the snapshot does not", x.hearSnapshot(1, 1, 0), 1);
        check.due("the old size", x.best(1, 0, 0, 0, 1), 5);
        check.due("the publisher is not touched", x.best(-1, 0, 0, 1, 1), 3);
    }
}
