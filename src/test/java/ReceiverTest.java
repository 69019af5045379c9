/** Promises 10, 15, 16, 17: line, sound, at, receiver. */
public final class ReceiverTest {
    private static final Check check = new Check();

    public static void main(String[] args) {
        wrongNumbers();
        firstCopyCounts();
        keptPacketsFollow();
        windowOfSix();
        eachPacketIsKeptApart();
        droppedCountAsHeard();
        receiversAreApart();
        eventsUpToAtAreNothing();
        heldEvents();
        heldAreThirtyAnInstrument();
        soundness();
        atOfThePublisher();
        check.end();
    }

    private static void wrongNumbers() {
        FeedDesk x = new FeedDesk();
        Feeds.clears(x, 0, 1);
        x.clear(0);
        int[][] wrong = {{-1, 1, 0}, {2, 1, 0}, {0, 0, 0}, {0, 2, 0}, {0, -1, 0}, {0, Integer.MAX_VALUE, 0},
            {0, 1, -1}, {0, 1, 2}, {Integer.MIN_VALUE, 1, 0}};
        for (int[] a : wrong) {
            check.due("line of wrong numbers", x.line(a[0], a[1], a[2]), -2);
        }
        check.due("nothing was heard", x.receiver(0, 1), 0);
        int[][] noTrack = {{-1, 0}, {2, 0}, {0, -1}, {0, 4}};
        for (int[] a : noTrack) {
            check.due("sound of wrong numbers", x.sound(a[0], a[1]), -2);
        }
        int[][] noBook = {{-2, 0}, {2, 0}, {0, -1}, {0, 4}, {-1, 4}, {Integer.MIN_VALUE, 0}};
        for (int[] a : noBook) {
            check.due("at of wrong numbers", x.at(a[0], a[1]), -2);
        }
        int[][] noNumber = {{-1, 0}, {2, 0}, {0, -1}, {0, 4}, {1, Integer.MAX_VALUE}};
        for (int[] a : noNumber) {
            check.due("receiver of wrong numbers", x.receiver(a[0], a[1]), -2);
        }
    }

    private static void firstCopyCounts() {
        FeedDesk x = new FeedDesk();
        x.add(0, 1, 0, 10, 5);
        x.publish();
        check.due("the first copy", x.line(0, 1, 0), 1);
        check.due("NEXT", x.receiver(0, 0), 2);
        check.due("HIGHEST", x.receiver(0, 1), 1);
        check.due("AT", x.at(0, 0), 1);
        check.due("the second copy", x.line(1, 1, 0), 0);
        check.due("the same line again", x.line(0, 1, 0), 0);
        check.due("AT stays", x.at(0, 0), 1);
        check.due("one order", x.best(0, 0, 0, 0, 2), 1);
    }

    private static void keptPacketsFollow() {
        FeedDesk x = new FeedDesk();
        Feeds.clears(x, 0, 6);
        check.due("packet 3 early", x.line(0, 3, 0), 2);
        check.due("packet 3 again", x.line(1, 3, 0), 2);
        check.due("kept once", x.receiver(0, 2), 1);
        check.due("packet 2 early", x.line(1, 2, 0), 2);
        check.due("packet 5 early", x.line(1, 5, 0), 2);
        check.due("three kept", x.receiver(0, 2), 3);
        check.due("no event is taken", x.at(0, 0), 0);
        check.due("none is held", x.receiver(0, 3), 0);
        check.due("packet 1", x.line(0, 1, 0), 1);
        check.due("1 to 3 are passed", x.receiver(0, 0), 4);
        check.due("their events are applied", x.at(0, 0), 3);
        check.due("5 is kept", x.receiver(0, 2), 1);
        check.due("HIGHEST", x.receiver(0, 1), 5);
        check.due("a passed one", x.line(1, 2, 0), 0);
        check.due("packet 4", x.line(1, 4, 0), 1);
        check.due("5 follows", x.receiver(0, 0), 6);
        check.due("none is kept", x.receiver(0, 2), 0);
    }

    private static void windowOfSix() {
        FeedDesk x = new FeedDesk();
        Feeds.clears(x, 0, 20);
        check.due("NEXT + 6", x.line(0, 7, 0), 2);
        check.due("NEXT + 7", x.line(0, 8, 0), 3);
        check.due("7 is kept, 8 is not", x.receiver(0, 2), 1);
        for (int packet = 2; packet <= 6; packet++) {
            check.due("line of " + packet, x.line(0, packet, 0), 2);
        }
        check.due("all six are kept", x.receiver(0, 2), 6);
        check.due("packet 1", x.line(1, 1, 0), 1);
        check.due("NEXT is the dropped one", x.receiver(0, 0), 8);
        check.due("AT", x.at(0, 0), 7);
        check.due("NEXT + 6 again", x.line(0, 14, 0), 2);
        check.due("NEXT + 7 again", x.line(0, 15, 0), 3);
        check.due("packet 8", x.line(0, 8, 0), 1);
        check.due("15 is NEXT + 6 now", x.line(0, 15, 0), 2);
        check.due("two are kept", x.receiver(0, 2), 2);
        check.due("16 was never heard", x.receiver(0, 1), 15);
        for (int packet = 10; packet <= 13; packet++) {
            check.due("line of " + packet, x.line(1, packet, 0), 2);
        }
        check.due("packet 9", x.line(1, 9, 0), 1);
        check.due("NEXT", x.receiver(0, 0), 16);
        for (int packet = 17; packet <= 20; packet++) {
            check.due("line of " + packet, x.line(1, packet, 0), 2);
            check.due("kept", x.receiver(0, 2), packet - 16);
        }
    }

    private static void eachPacketIsKeptApart() {
        for (int packet = 2; packet <= 12; packet++) {
            FeedDesk x = new FeedDesk();
            Feeds.clears(x, 0, 13);
            for (int heard = 1; heard < packet - 1; heard++) {
                x.line(0, heard, 0);
            }
            check.due("early: " + packet, x.line(0, packet, 0), 2);
            check.due("one is kept", x.receiver(0, 2), 1);
            check.due("the one ahead", x.line(0, packet - 1, 0), 1);
            check.due("none is kept", x.receiver(0, 2), 0);
            check.due("NEXT", x.receiver(0, 0), packet + 1);
        }
    }

    private static void droppedCountAsHeard() {
        FeedDesk x = new FeedDesk();
        Feeds.clears(x, 0, 10);
        check.due("dropped", x.line(0, 9, 1), 3);
        check.due("HIGHEST", x.receiver(1, 1), 9);
        check.due("a lower one", x.line(0, 8, 1), 3);
        check.due("HIGHEST stays", x.receiver(1, 1), 9);
        check.due("not sound", x.sound(1, 0), 0);
        for (int packet = 1; packet <= 8; packet++) {
            check.due("line of " + packet, x.line(0, packet, 1), 1);
            check.due("not sound yet", x.sound(1, 3), 0);
        }
        check.due("the dropped one", x.line(0, 9, 1), 1);
        check.due("sound, though 10 is unheard", x.sound(1, 0), 1);
    }

    private static void receiversAreApart() {
        FeedDesk x = new FeedDesk();
        Feeds.clears(x, 2, 3);
        x.line(0, 1, 0);
        x.line(0, 3, 0);
        check.due("NEXT of 1", x.receiver(1, 0), 1);
        check.due("HIGHEST of 1", x.receiver(1, 1), 0);
        check.due("kept of 1", x.receiver(1, 2), 0);
        check.due("AT of 1", x.at(1, 2), 0);
        check.due("packet 2 is early for 1", x.line(0, 2, 1), 2);
        check.due("but due for 0", x.line(0, 2, 0), 1);
        check.due("AT of 0", x.at(0, 2), 3);
    }

    private static void eventsUpToAtAreNothing() {
        FeedDesk x = new FeedDesk();
        x.add(0, 1, 0, 10, 5);
        x.add(0, 2, 0, 11, 5);
        x.publish();
        x.cancel(0, 2);
        x.snapshotTurn();
        check.due("the snapshot, open events too", x.hearSnapshot(1, 0, 0), 1);
        check.due("AT", x.at(0, 0), 3);
        check.due("packet 1 is passed", x.line(0, 1, 0), 1);
        check.due("AT stays", x.at(0, 0), 3);
        check.due("one order", x.order(0, 0, 0, 1), -1);
        x.add(0, 3, 0, 12, 5);
        x.publish();
        check.due("half of packet 2 is new", x.line(0, 2, 0), 1);
        check.due("AT grows", x.at(0, 0), 4);
        check.due("the new one", x.order(0, 0, 0, 0), 3);
        check.due("the old one", x.order(0, 0, 0, 1), 1);
        check.due("the cancelled one stays away", x.order(0, 0, 0, 2), -1);
    }

    private static void heldEvents() {
        FeedDesk x = Feeds.needy(0);
        check.due("event 2 of packet 2 is held", x.receiver(0, 3), 1);
        check.due("AT", x.at(0, 0), 0);
        check.due("packet 3 is passed", x.line(0, 3, 0), 1);
        check.due("its events are applied", x.at(0, 1), 5);
        check.due("one is held still", x.receiver(0, 3), 1);
        x.clear(0);
        x.clear(1);
        x.publish();
        for (int packet = 4; packet <= 11; packet++) {
            x.line(1, packet, 0);
        }
        check.due("two are held", x.receiver(0, 3), 2);
        check.due("the other instrument goes on", x.at(0, 1), 41);
    }

    private static void heldAreThirtyAnInstrument() {
        FeedDesk x = Feeds.needy(1);
        // Packets 3 to 10 are those of needy; instrument 0 gets events 3 to 37, instrument 2 gets 1 to 5.
        Feeds.fullPackets(x, 0, 6);
        for (int packet = 3; packet <= 15; packet++) {
            x.line(0, packet, 1);
        }
        check.due("2 to 27 are held", x.receiver(1, 3), 26);
        x.line(0, 16, 1);
        check.due("30 are held, 32 is lost", x.receiver(1, 3), 30);
        Feeds.fullPackets(x, 0, 1);
        Feeds.fullPackets(x, 2, 1);
        x.line(0, 17, 1);
        check.due("more are lost", x.receiver(1, 3), 30);
        x.line(0, 18, 1);
        check.due("others are taken", x.at(1, 2), 5);
        check.due("instrument 0 stands", x.at(1, 0), 0);
        check.due("a lost event is not heard again", x.line(1, 16, 1), 0);
        check.due("30 are held", x.receiver(1, 3), 30);
    }

    private static void soundness() {
        FeedDesk x = new FeedDesk();
        Feeds.clears(x, 0, 3);
        x.line(0, 2, 0);
        for (int i = 0; i < 4; i++) {
            check.due("a gap: none is sound", x.sound(0, i), 0);
            check.due("the other receiver heard nothing", x.sound(1, i), 1);
        }
        x.line(1, 1, 0);
        check.due("no gap", x.sound(0, 0), 1);
        FeedDesk y = Feeds.needy(0);
        for (int i = 0; i < 4; i++) {
            check.due("each instrument needs a snapshot", y.sound(0, i), 0);
        }
        y.snapshotTurn();
        y.hearSnapshot(1, 0, 0);
        check.due("instrument 0 has it", y.sound(0, 0), 1);
        check.due("instrument 1 has not", y.sound(0, 1), 0);
        y.line(0, 5, 0);
        check.due("a new gap", y.sound(0, 0), 0);
    }

    private static void atOfThePublisher() {
        FeedDesk x = new FeedDesk();
        x.clear(3);
        x.clear(3);
        check.due("events of the open packet count", x.at(-1, 3), 2);
        x.publish();
        check.due("and of closed ones", x.at(-1, 3), 2);
        check.due("not those of others", x.at(-1, 2), 0);
        check.due("the receiver heard none", x.at(1, 3), 0);
        x.line(0, 1, 1);
        check.due("now it did", x.at(1, 3), 2);
    }
}
