/** Promises 11 and 12: askReplay, serveReplay. */
public final class ReplayTest {
    private static final Check check = new Check();

    public static void main(String[] args) {
        wrongNumbers();
        gapAheadOfKept();
        gapAheadOfTheFarthestKept();
        gapUpToHighest();
        askedOnce();
        newAskForgetsTheOld();
        passedMeanwhile();
        keptMeanwhile();
        lastFortyEvents();
        openPacketDoesNotCount();
        ageIsThatOfTheAnswer();
        onlyTheRestMustBeYoung();
        tooOldGoesOn();
        tooOldForgetsWhatIsKeptInTheGap();
        tooOldForgetsToTheGapsEnd();
        tooOldTwice();
        check.end();
    }

    private static void wrongNumbers() {
        FeedDesk x = new FeedDesk();
        int[] wrong = {-1, 2, Integer.MIN_VALUE, Integer.MAX_VALUE};
        for (int receiver : wrong) {
            check.due("askReplay of a wrong receiver", x.askReplay(receiver), -2);
            check.due("serveReplay of a wrong receiver", x.serveReplay(receiver), -2);
        }
    }

    private static void gapAheadOfKept() {
        FeedDesk x = new FeedDesk();
        Feeds.clears(x, 0, 8);
        x.line(0, 1, 0);
        check.due("no gap", x.askReplay(0), 0);
        check.due("no answer", x.serveReplay(0), 0);
        x.line(0, 4, 0);
        x.line(0, 7, 0);
        check.due("2 and 3", x.askReplay(0), 2);
        check.due("they come", x.serveReplay(0), 1);
        check.due("4 follows", x.receiver(0, 0), 5);
        check.due("7 is kept", x.receiver(0, 2), 1);
        check.due("AT", x.at(0, 0), 4);
        check.due("5 and 6", x.askReplay(0), 2);
        check.due("they come", x.serveReplay(0), 1);
        check.due("7 follows", x.receiver(0, 0), 8);
        check.due("packet 8 was never heard of", x.askReplay(0), 0);
        check.due("HIGHEST", x.receiver(0, 1), 7);
        check.due("sound", x.sound(0, 0), 1);
    }

    private static void gapAheadOfTheFarthestKept() {
        FeedDesk x = new FeedDesk();
        Feeds.clears(x, 0, 9);
        x.line(0, 9, 0);
        x.line(0, 7, 0);
        check.due("1 to 6, though 9 was heard", x.askReplay(0), 6);
        check.due("they come", x.serveReplay(0), 1);
        check.due("7 follows", x.receiver(0, 0), 8);
        check.due("the dropped one is not kept", x.line(0, 9, 0), 2);
        check.due("packet 8", x.askReplay(0), 1);
    }

    private static void gapUpToHighest() {
        FeedDesk x = new FeedDesk();
        Feeds.clears(x, 0, 12);
        x.line(0, 10, 1);
        check.due("1 to 10: the dropped one, too", x.askReplay(1), 10);
        check.due("they come", x.serveReplay(1), 1);
        check.due("NEXT", x.receiver(1, 0), 11);
        check.due("AT", x.at(1, 0), 10);
        check.due("the other receiver has none", x.askReplay(0), 0);
    }

    private static void askedOnce() {
        FeedDesk x = new FeedDesk();
        Feeds.clears(x, 0, 5);
        x.line(0, 3, 0);
        check.due("not asked", x.serveReplay(0), 0);
        check.due("so nothing came", x.receiver(0, 0), 1);
        check.due("asked", x.askReplay(0), 2);
        check.due("the other did not ask", x.serveReplay(1), 0);
        check.due("answered", x.serveReplay(0), 1);
        check.due("asked no more", x.serveReplay(0), 0);
    }

    private static void newAskForgetsTheOld() {
        FeedDesk x = new FeedDesk();
        Feeds.clears(x, 0, 6);
        x.line(0, 6, 0);
        check.due("1 to 5", x.askReplay(0), 5);
        x.line(0, 3, 0);
        check.due("1 and 2", x.askReplay(0), 2);
        check.due("they come", x.serveReplay(0), 1);
        check.due("3 follows, 4 and 5 are not asked for", x.receiver(0, 0), 4);
        FeedDesk y = new FeedDesk();
        Feeds.clears(y, 0, 3);
        y.line(0, 3, 0);
        check.due("1 and 2", y.askReplay(0), 2);
        y.line(0, 1, 0);
        y.line(0, 2, 0);
        check.due("no gap any more", y.askReplay(0), 0);
        Feeds.clears(y, 0, 2);
        y.line(0, 5, 0);
        check.due("the old one is forgotten", y.serveReplay(0), 0);
    }

    private static void passedMeanwhile() {
        FeedDesk x = new FeedDesk();
        Feeds.clears(x, 0, 6);
        x.line(0, 5, 0);
        check.due("1 to 4", x.askReplay(0), 4);
        x.line(0, 1, 0);
        x.line(0, 2, 0);
        check.due("the rest comes", x.serveReplay(0), 1);
        check.due("NEXT", x.receiver(0, 0), 6);
        FeedDesk y = new FeedDesk();
        Feeds.clears(y, 0, 6);
        y.line(0, 3, 0);
        y.askReplay(0);
        y.line(0, 1, 0);
        y.line(0, 2, 0);
        y.line(0, 6, 0);
        check.due("all is passed", y.serveReplay(0), 0);
        check.due("the new gap is not asked for", y.receiver(0, 0), 4);
    }

    private static void keptMeanwhile() {
        FeedDesk x = new FeedDesk();
        Feeds.clears(x, 0, 6);
        x.line(0, 4, 0);
        check.due("1 to 3", x.askReplay(0), 3);
        x.line(0, 2, 0);
        check.due("2 is there twice", x.serveReplay(0), 1);
        check.due("NEXT", x.receiver(0, 0), 5);
        check.due("none is kept", x.receiver(0, 2), 0);
        check.due("AT", x.at(0, 0), 4);
    }

    private static void lastFortyEvents() {
        FeedDesk x = new FeedDesk();
        Feeds.fullPackets(x, 0, 8);
        x.line(0, 2, 0);
        x.line(0, 2, 1);
        x.askReplay(0);
        check.due("40 events: all are there", x.serveReplay(0), 1);
        Feeds.clears(x, 0, 1);
        x.askReplay(1);
        check.due("41: the first is too old", x.serveReplay(1), 2);
        FeedDesk y = new FeedDesk();
        Feeds.fullPackets(y, 0, 9);
        y.line(0, 1, 0);
        y.line(0, 3, 0);
        y.askReplay(0);
        check.due("packet 2 is among the last 40", y.serveReplay(0), 1);
        check.due("AT", y.at(0, 0), 15);
    }

    private static void openPacketDoesNotCount() {
        FeedDesk x = new FeedDesk();
        Feeds.fullPackets(x, 0, 8);
        for (int i = 0; i < 5; i++) {
            x.clear(1);
        }
        x.line(0, 2, 0);
        x.line(0, 2, 1);
        x.askReplay(0);
        check.due("five more are in the open packet", x.serveReplay(0), 1);
        x.publish();
        x.askReplay(1);
        check.due("now they are closed", x.serveReplay(1), 2);
    }

    private static void ageIsThatOfTheAnswer() {
        FeedDesk x = new FeedDesk();
        Feeds.fullPackets(x, 0, 8);
        x.line(0, 2, 0);
        check.due("asked in time", x.askReplay(0), 1);
        Feeds.clears(x, 0, 1);
        check.due("answered too late", x.serveReplay(0), 2);
    }

    private static void onlyTheRestMustBeYoung() {
        FeedDesk x = new FeedDesk();
        Feeds.fullPackets(x, 0, 9);
        x.line(0, 4, 0);
        check.due("1 to 3", x.askReplay(0), 3);
        x.line(1, 1, 0);
        check.due("2 and 3 are young", x.serveReplay(0), 1);
        check.due("NEXT", x.receiver(0, 0), 5);
    }

    private static void tooOldGoesOn() {
        FeedDesk x = new FeedDesk();
        Feeds.fullPackets(x, 0, 3);
        Feeds.fullPackets(x, 1, 8);
        x.line(0, 3, 0);
        x.line(0, 4, 0);
        x.line(0, 6, 0);
        check.due("1 and 2", x.askReplay(0), 2);
        check.due("too old", x.serveReplay(0), 2);
        check.due("3 and 4 follow", x.receiver(0, 0), 5);
        check.due("6 is kept", x.receiver(0, 2), 1);
        check.due("HIGHEST", x.receiver(0, 1), 6);
        check.due("events of 3 are held", x.receiver(0, 3), 5);
        check.due("events of 4 are applied", x.at(0, 1), 5);
        check.due("asked no more", x.serveReplay(0), 0);
        check.due("the new gap", x.askReplay(0), 1);
        check.due("it is young", x.serveReplay(0), 1);
        for (int i = 0; i < 4; i++) {
            check.due("a snapshot is needed", x.sound(0, i), 0);
        }
        FeedDesk y = new FeedDesk();
        Feeds.fullPackets(y, 0, 12);
        y.line(0, 10, 0);
        check.due("1 to 10", y.askReplay(0), 10);
        check.due("too old", y.serveReplay(0), 2);
        check.due("NEXT is behind the gap", y.receiver(0, 0), 11);
        check.due("no event was taken", y.receiver(0, 3), 0);
        check.due("AT", y.at(0, 0), 0);
    }

    private static void tooOldForgetsWhatIsKeptInTheGap() {
        FeedDesk x = new FeedDesk();
        Feeds.fullPackets(x, 0, 12);
        x.line(0, 4, 0);
        check.due("1 to 3", x.askReplay(0), 3);
        x.line(0, 2, 0);
        check.due("two are kept", x.receiver(0, 2), 2);
        check.due("too old", x.serveReplay(0), 2);
        check.due("4 follows", x.receiver(0, 0), 5);
        check.due("none is kept", x.receiver(0, 2), 0);
        check.due("only the events of 4 are held", x.receiver(0, 3), 5);
        check.due("10 is kept", x.line(0, 10, 0), 2);
        check.due("NEXT stays", x.receiver(0, 0), 5);
        check.due("5 is passed, and no more", x.line(0, 5, 0), 1);
        check.due("NEXT", x.receiver(0, 0), 6);
    }

    private static void tooOldForgetsToTheGapsEnd() {
        for (int kept = 2; kept <= 7; kept++) {
            FeedDesk x = new FeedDesk();
            Feeds.fullPackets(x, 0, 30);
            x.line(0, 8, 0);
            check.due("1 to 8", x.askReplay(0), 8);
            x.line(0, kept, 0);
            check.due("one is kept", x.receiver(0, 2), 1);
            check.due("too old", x.serveReplay(0), 2);
            check.due("NEXT", x.receiver(0, 0), 9);
            check.due("none is kept", x.receiver(0, 2), 0);
            check.due("none is held", x.receiver(0, 3), 0);
        }
        FeedDesk y = new FeedDesk();
        Feeds.fullPackets(y, 0, 30);
        y.line(0, 4, 0);
        check.due("1 to 3", y.askReplay(0), 3);
        y.line(0, 3, 0);
        check.due("too old", y.serveReplay(0), 2);
        check.due("4 follows", y.receiver(0, 0), 5);
        check.due("none is kept", y.receiver(0, 2), 0);
        check.due("only the events of 4 are held", y.receiver(0, 3), 5);
    }

    private static void tooOldTwice() {
        FeedDesk x = Feeds.needy(0);
        x.snapshotTurn();
        Feeds.fullPackets(x, 2, 8);
        x.line(0, 11, 0);
        x.line(0, 4, 0);
        check.due("packet 3", x.askReplay(0), 1);
        check.due("too old", x.serveReplay(0), 2);
        check.due("NEXT", x.receiver(0, 0), 5);
        Feeds.fullPackets(x, 2, 2);
        check.due("5 to 11", x.askReplay(0), 7);
        check.due("too old", x.serveReplay(0), 2);
        check.due("NEXT", x.receiver(0, 0), 12);
        check.due("the snapshot covers 10, and 11 is needed", x.hearSnapshot(1, 0, 0), 1);
        check.due("the need stays", x.sound(0, 0), 0);
        check.due("nothing more comes of it", x.hearSnapshot(1, 0, 0), 0);
        for (int i = 0; i < 4; i++) {
            x.snapshotTurn();
        }
        check.due("a newer one covers it", x.hearSnapshot(5, 0, 0), 2);
        check.due("sound", x.sound(0, 0), 1);
    }
}
