/** The edges of what receivers hear, sentence by sentence: Terms, promises 10 and 15 to 17. */
public final class ReceiverEdgesTest {
    private static final int WRONG = -2;
    private static final Check check = new Check();

    public static void main(String[] args) {
        nextAtFirst();
        for (int next = 1; next <= 20; next++) {
            belowNext(next);
            nextItself(next);
            keptAndDropped(next);
        }
        allSixKept();
        keptUpToAHole();
        keptAlready();
        bothLines();
        highest();
        highestIsNext();
        needsAndGaps();
        numbersUpToAt();
        numberBehindAt();
        heldNumbers();
        thirtyHeld();
        thirtyHeldThatDoNotFollow();
        thirtyOfEachInstrument();
        check.end();
    }

    private static void state(FeedDesk x, int receiver, int next, int highest, int kept, int held) {
        check.due("NEXT", x.receiver(receiver, 0), next);
        check.due("HIGHEST", x.receiver(receiver, 1), highest);
        check.due("how many are kept", x.receiver(receiver, 2), kept);
        check.due("how many are held", x.receiver(receiver, 3), held);
    }

    private static void nextAtFirst() {
        check.sentence("NEXT is the packet that it waits for (1 at first)");
        FeedDesk x = new FeedDesk();
        state(x, 0, 1, 0, 0, 0);
        state(x, 1, 1, 0, 0, 0);
        Feeds.clears(x, 0, 1);
        state(x, 0, 1, 0, 0, 0);
        check.due("packet 1", x.line(0, 1, 0), 1);
        state(x, 0, 2, 1, 0, 0);
        state(x, 1, 1, 0, 0, 0);
    }

    /** Thirty packets of one event; receiver 0 waits for this one. */
    private static FeedDesk waiting(int next) {
        FeedDesk x = new FeedDesk();
        Feeds.clears(x, 0, 30);
        for (int packet = 1; packet < next; packet++) {
            x.line(packet % 2, packet, 0);
        }
        return x;
    }

    private static void belowNext(int next) {
        check.sentence("A packet below NEXT is nothing");
        FeedDesk x = waiting(next);
        check.due("NEXT - 1", x.line(0, next - 1, 0), next == 1 ? WRONG : 0);
        check.due("NEXT - 1 on the other line", x.line(1, next - 1, 0), next == 1 ? WRONG : 0);
        state(x, 0, next, next - 1, 0, 0);
        check.due("AT", x.at(0, 0), next - 1);
    }

    private static void nextItself(int next) {
        check.sentence("NEXT itself is PASSED: its events are taken, NEXT grows");
        FeedDesk x = waiting(next);
        check.due("NEXT", x.line(1, next, 0), 1);
        state(x, 0, next + 1, next, 0, 0);
        check.due("AT", x.at(0, 0), next);
    }

    private static void keptAndDropped(int next) {
        check.sentence("One above, up to NEXT + 6, is KEPT; above that it is dropped");
        FeedDesk x = waiting(next);
        check.due("NEXT + 8", x.line(0, next + 8, 0), 3);
        check.due("NEXT + 7", x.line(0, next + 7, 0), 3);
        state(x, 0, next, next + 8, 0, 0);
        check.due("NEXT + 6", x.line(0, next + 6, 0), 2);
        check.due("NEXT + 1", x.line(0, next + 1, 0), 2);
        state(x, 0, next, next + 8, 2, 0);
        check.due("no event is taken", x.at(0, 0), next - 1);
        check.due("NEXT", x.line(0, next, 0), 1);
        state(x, 0, next + 2, next + 8, 1, 0);
        check.due("AT", x.at(0, 0), next + 1);
        check.due("what was dropped is to be heard again", x.line(1, next + 8, 0), 2);
        check.due("NEXT + 7 from there", x.line(1, next + 9, 0), 3);
    }

    private static void allSixKept() {
        check.sentence("and so on with packets that are kept");
        FeedDesk x = waiting(1);
        for (int packet = 7; packet >= 2; packet--) {
            check.due("early", x.line(0, packet, 0), 2);
            state(x, 0, 1, 7, 8 - packet, 0);
        }
        check.due("NEXT", x.line(0, 1, 0), 1);
        state(x, 0, 8, 7, 0, 0);
        check.due("AT", x.at(0, 0), 7);
        check.due("sound", x.sound(0, 0), 1);
    }

    private static void keptUpToAHole() {
        check.sentence("and so on with packets that are kept (up to the first that is not)");
        for (int hole = 2; hole <= 7; hole++) {
            FeedDesk x = waiting(1);
            for (int packet = 2; packet <= 7; packet++) {
                if (packet != hole) {
                    x.line(0, packet, 0);
                }
            }
            check.due("NEXT", x.line(0, 1, 0), 1);
            state(x, 0, hole, hole == 7 ? 6 : 7, 7 - hole, 0);
            check.due("AT", x.at(0, 0), hole - 1);
            check.due("the hole", x.line(1, hole, 0), 1);
            state(x, 0, 8, 7, 0, 0);
        }
    }

    private static void keptAlready() {
        check.sentence("2 kept (also when it was already)");
        FeedDesk x = waiting(1);
        for (int times = 0; times < 3; times++) {
            check.due("on line 0", x.line(0, 7, 0), 2);
            check.due("on line 1", x.line(1, 7, 0), 2);
            state(x, 0, 1, 7, 1, 0);
        }
    }

    private static void bothLines() {
        check.sentence("receivers take whichever copy comes first");
        for (int first = 0; first < 2; first++) {
            FeedDesk x = waiting(1);
            check.due("the first copy", x.line(first, 1, 0), 1);
            check.due("the second", x.line(1 - first, 1, 0), 0);
            check.due("an early copy", x.line(first, 3, 0), 2);
            check.due("NEXT on the other line", x.line(1 - first, 2, 0), 1);
            check.due("the early one's second copy", x.line(1 - first, 3, 0), 0);
            state(x, 0, 4, 3, 0, 0);
            check.due("each event is applied once", x.at(0, 0), 3);
        }
    }

    private static void highest() {
        check.sentence("HIGHEST is the greatest number of all that it heard (dropped ones, too)");
        FeedDesk x = waiting(1);
        check.due("passed", x.line(0, 1, 0), 1);
        state(x, 0, 2, 1, 0, 0);
        check.due("kept", x.line(0, 5, 0), 2);
        state(x, 0, 2, 5, 1, 0);
        check.due("dropped", x.line(0, 9, 0), 3);
        state(x, 0, 2, 9, 1, 0);
        check.due("a lower one", x.line(0, 4, 0), 2);
        check.due("nothing", x.line(0, 1, 0), 0);
        check.due("the last that was published", x.line(0, 30, 0), 3);
        check.due("one that was not", x.line(0, 31, 0), WRONG);
        check.due("on a line that is none", x.line(2, 30, 1), WRONG);
        state(x, 0, 2, 30, 2, 0);
        state(x, 1, 1, 0, 0, 0);
    }

    private static void highestIsNext() {
        check.sentence("An instrument is SOUND if HIGHEST is below NEXT");
        FeedDesk x = waiting(1);
        check.due("nothing was heard", x.sound(0, 0), 1);
        x.line(0, 8, 0);
        for (int packet = 1; packet <= 7; packet++) {
            x.line(0, packet, 0);
            check.due("HIGHEST is above NEXT, or NEXT itself", x.sound(0, 0), 0);
        }
        state(x, 0, 8, 8, 0, 0);
        for (int instrument = 0; instrument < 4; instrument++) {
            check.due("HIGHEST is NEXT", x.sound(0, instrument), 0);
        }
        x.line(0, 8, 0);
        for (int instrument = 0; instrument < 4; instrument++) {
            check.due("HIGHEST is NEXT - 1", x.sound(0, instrument), 1);
        }
    }

    private static void needsAndGaps() {
        check.sentence("An instrument is SOUND if it needs nothing");
        FeedDesk x = Feeds.needy(0);
        state(x, 0, 3, 2, 0, 1);
        for (int instrument = 0; instrument < 4; instrument++) {
            check.due("each needs a snapshot", x.sound(0, instrument), 0);
            check.due("the other receiver does not", x.sound(1, instrument), 1);
        }
        for (int instrument = 0; instrument < 4; instrument++) {
            x.snapshotTurn();
            x.hearSnapshot(instrument + 1, 0, 0);
            for (int other = 0; other < 4; other++) {
                check.due("those that have heard theirs", x.sound(0, other), other <= instrument ? 1 : 0);
            }
        }
        x.line(0, 4, 0);
        check.due("needs nothing, but there is a gap", x.sound(0, 0), 0);
    }

    /** Event n of instrument 0 adds order n, two in each of the packets 1 to 4; a snapshot was made after so many. */
    private static FeedDesk ahead(int events) {
        FeedDesk x = new FeedDesk();
        for (int n = 1; n <= 8; n++) {
            x.add(0, n, 0, 100 - n, 1);
            if (n == events) {
                x.snapshotTurn();
            }
            if (n % 2 == 0) {
                x.publish();
            }
        }
        x.hearSnapshot(1, 0, 0);
        return x;
    }

    private static void numbersUpToAt() {
        check.sentence("one with a number up to AT is nothing");
        FeedDesk x = ahead(4);
        check.due("AT, by a snapshot", x.at(0, 0), 4);
        check.due("packet 1: AT - 3 and AT - 2", x.line(0, 1, 0), 1);
        check.due("AT", x.at(0, 0), 4);
        check.due("packet 2: AT - 1 and AT", x.line(0, 2, 0), 1);
        check.due("AT", x.at(0, 0), 4);
        state(x, 0, 3, 2, 0, 0);
        check.due("the last order", x.order(0, 0, 0, 3), 4);
        check.due("no more", x.order(0, 0, 0, 4), -1);
    }

    private static void numberBehindAt() {
        check.sentence("An event with the number AT + 1 is applied");
        FeedDesk x = ahead(3);
        check.due("AT, by a snapshot", x.at(0, 0), 3);
        x.line(0, 1, 0);
        check.due("AT", x.at(0, 0), 3);
        check.due("packet 2: AT and AT + 1", x.line(0, 2, 0), 1);
        check.due("AT", x.at(0, 0), 4);
        state(x, 0, 3, 2, 0, 0);
        check.due("packet 3: AT + 1 and the one that follows", x.line(0, 3, 0), 1);
        check.due("AT", x.at(0, 0), 6);
        check.due("the last order", x.order(0, 0, 0, 5), 6);
        check.due("no more", x.order(0, 0, 0, 6), -1);
    }

    private static void heldNumbers() {
        check.sentence("HELD events (with numbers above AT + 1, of each number one)");
        FeedDesk x = Feeds.needy(0);
        check.due("AT", x.at(0, 0), 0);
        state(x, 0, 3, 2, 0, 1);
        check.due("the other copy of AT + 2", x.line(1, 2, 0), 0);
        state(x, 0, 3, 2, 0, 1);
        check.due("AT + 1 comes no more", x.line(1, 1, 0), 0);
        check.due("AT", x.at(0, 0), 0);
        check.due("another instrument's AT + 1", x.line(0, 3, 0), 1);
        check.due("its AT", x.at(0, 1), 5);
        state(x, 0, 4, 3, 0, 1);
    }

    /** Receiver 1 has missed event 1 of instrument 0, of which snapshot 1 was made, and holds 2 to 30. */
    private static FeedDesk holding() {
        FeedDesk x = new FeedDesk();
        Feeds.clears(x, 0, 1);
        x.snapshotTurn();
        Feeds.fullPackets(x, 0, 5);
        for (int n = 27; n <= 30; n++) {
            x.clear(0);
        }
        x.publish();
        Feeds.fullPackets(x, 1, 4);
        x.line(0, 2, 1);
        x.askReplay(1);
        x.serveReplay(1);
        for (int packet = 3; packet <= 11; packet++) {
            x.line(0, packet, 1);
        }
        return x;
    }

    private static void thirtyHeld() {
        check.sentence("HELD events, at most 30; when 30 are, it is lost");
        FeedDesk x = holding();
        state(x, 1, 12, 11, 0, 29);
        Feeds.clears(x, 0, 3);
        check.due("the thirtieth", x.line(0, 12, 1), 1);
        state(x, 1, 13, 12, 0, 30);
        check.due("one that is lost", x.line(0, 13, 1), 1);
        state(x, 1, 14, 13, 0, 30);
        check.due("another", x.line(0, 14, 1), 1);
        state(x, 1, 15, 14, 0, 30);
        check.due("the snapshot that was missing", x.hearSnapshot(1, 1, 0), 1);
        check.due("AT: 30 have followed, and those that were lost have not", x.at(1, 0), 31);
        state(x, 1, 15, 14, 0, 0);
        FeedDesk y = holding();
        check.due("the snapshot, with 29 held", y.hearSnapshot(1, 1, 0), 1);
        check.due("AT", y.at(1, 0), 30);
        state(y, 1, 12, 11, 0, 0);
    }

    private static void thirtyHeldThatDoNotFollow() {
        check.sentence("HELD events, at most 30 (and a snapshot that none of them follows)");
        FeedDesk x = new FeedDesk();
        Feeds.clears(x, 0, 1);
        x.snapshotTurn();
        Feeds.clears(x, 0, 1);
        Feeds.fullPackets(x, 0, 7);
        Feeds.fullPackets(x, 1, 2);
        x.line(0, 3, 0);
        check.due("1 and 2", x.askReplay(0), 2);
        check.due("too old", x.serveReplay(0), 2);
        for (int packet = 4; packet <= 9; packet++) {
            x.line(0, packet, 0);
        }
        state(x, 0, 10, 9, 0, 30);
        check.due("the snapshot of event 1", x.hearSnapshot(1, 0, 0), 1);
        check.due("AT: 2 is missing still", x.at(0, 0), 1);
        state(x, 0, 10, 9, 0, 30);
        for (int number = 2; number <= 5; number++) {
            x.snapshotTurn();
        }
        check.due("the snapshot of all events", x.hearSnapshot(5, 0, 0), 1);
        check.due("AT", x.at(0, 0), 37);
        state(x, 0, 10, 9, 0, 0);
    }

    private static void thirtyOfEachInstrument() {
        check.sentence("A RECEIVER has for each instrument HELD events, at most 30");
        FeedDesk x = new FeedDesk();
        x.clear(0);
        x.clear(1);
        x.publish();
        Feeds.fullPackets(x, 0, 6);
        Feeds.fullPackets(x, 1, 6);
        x.clear(0);
        x.clear(1);
        x.clear(2);
        x.publish();
        x.line(0, 2, 0);
        x.askReplay(0);
        check.due("packet 1 is too old", x.serveReplay(0), 2);
        for (int packet = 3; packet <= 7; packet++) {
            x.line(0, packet, 0);
        }
        state(x, 0, 8, 7, 0, 30);
        for (int packet = 8; packet <= 13; packet++) {
            x.line(0, packet, 0);
        }
        state(x, 0, 14, 13, 0, 60);
        check.due("two are lost, the third is applied", x.line(0, 14, 0), 1);
        state(x, 0, 15, 14, 0, 60);
        check.due("AT of the third's instrument", x.at(0, 2), 1);
    }
}
