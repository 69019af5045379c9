/** The edges of gaps, asking and answers, sentence by sentence: Terms, promises 11 and 12. */
public final class ReplayEdgesTest {
    private static final Check check = new Check();

    public static void main(String[] args) {
        noGap();
        highestIsNext();
        for (int kept = 2; kept <= 7; kept++) {
            gapAheadOfKept(kept);
        }
        firstOfTheKept();
        gapToHighest();
        for (int events = 39; events <= 42; events++) {
            lastForty(events);
            lastFortyInPacketsOfOne(events);
        }
        packetThatIsPartlyTooOld();
        firstPacketDecides();
        wholeGapOfForty();
        openPacketIsNotClosed();
        behindTheGap();
        behindTheGapToHighest();
        tooOldIsNotHeard();
        eachInstrumentNeeds();
        askedForNothing();
        askedForNoMore();
        forgottenByTheNextAsk();
        partlyPassed();
        allPassed();
        onlyWhatItAskedFor();
        keptSinceItAsked();
        restDecides();
        check.end();
    }

    private static FeedDesk packetsOfOne(int packets) {
        FeedDesk x = new FeedDesk();
        Feeds.clears(x, 0, packets);
        return x;
    }

    private static void state(FeedDesk x, int next, int highest, int kept, int at) {
        check.due("NEXT", x.receiver(0, 0), next);
        check.due("HIGHEST", x.receiver(0, 1), highest);
        check.due("how many are kept", x.receiver(0, 2), kept);
        check.due("AT", x.at(0, 0), at);
    }

    private static void noGap() {
        check.sentence("there is none if HIGHEST is below NEXT; 0 when there is none");
        FeedDesk x = packetsOfOne(5);
        check.due("nothing was heard", x.askReplay(0), 0);
        check.due("no answer", x.serveReplay(0), 0);
        state(x, 1, 0, 0, 0);
        x.line(0, 1, 0);
        check.due("HIGHEST is NEXT - 1", x.askReplay(0), 0);
        check.due("no answer", x.serveReplay(0), 0);
        state(x, 2, 1, 0, 1);
    }

    private static void highestIsNext() {
        check.sentence("The GAP is what is missing from NEXT on, up to HIGHEST if none is kept (HIGHEST being NEXT)");
        FeedDesk x = packetsOfOne(9);
        x.line(0, 8, 0);
        for (int packet = 1; packet <= 7; packet++) {
            x.line(0, packet, 0);
        }
        state(x, 8, 8, 0, 7);
        check.due("one packet", x.askReplay(0), 1);
        check.due("it comes", x.serveReplay(0), 1);
        state(x, 9, 8, 0, 8);
    }

    private static void gapAheadOfKept(int kept) {
        check.sentence("up to ahead of the first packet that is kept");
        FeedDesk x = packetsOfOne(9);
        x.line(0, kept, 0);
        check.due("ahead of " + kept, x.askReplay(0), kept - 1);
        state(x, 1, kept, 1, 0);
        check.due("they come", x.serveReplay(0), 1);
        state(x, kept + 1, kept, 0, kept);
    }

    private static void firstOfTheKept() {
        check.sentence("up to ahead of the first packet that is kept (not of a later one, not to HIGHEST)");
        FeedDesk x = packetsOfOne(12);
        x.line(0, 12, 0);
        x.line(0, 6, 0);
        x.line(0, 4, 0);
        check.due("1 to 3", x.askReplay(0), 3);
        check.due("they come", x.serveReplay(0), 1);
        state(x, 5, 12, 1, 4);
        check.due("5", x.askReplay(0), 1);
        check.due("it comes", x.serveReplay(0), 1);
        state(x, 7, 12, 0, 6);
        check.due("7 to 12", x.askReplay(0), 6);
        check.due("they come", x.serveReplay(0), 1);
        state(x, 13, 12, 0, 12);
    }

    private static void gapToHighest() {
        check.sentence("or up to HIGHEST if none is");
        FeedDesk x = packetsOfOne(9);
        x.line(0, 8, 0);
        check.due("1 to 8", x.askReplay(0), 8);
        check.due("they come, the dropped one too", x.serveReplay(0), 1);
        state(x, 9, 8, 0, 8);
    }

    /** Packet 1 has five events, of so many in all; the others lie in packets of up to five. */
    private static void lastForty(int events) {
        check.sentence("if all their events are among the last 40 events of all packets that were closed");
        FeedDesk x = new FeedDesk();
        for (int n = 1; n <= events; n++) {
            x.clear(0);
            if (n % 5 == 0 || n == events) {
                x.publish();
            }
        }
        x.line(0, 2, 0);
        check.due("packet 1", x.askReplay(0), 1);
        check.due(events + " events", x.serveReplay(0), events <= 40 ? 1 : 2);
        state(x, 3, 2, 0, events <= 40 ? 10 : 0);
    }

    private static void lastFortyInPacketsOfOne(int events) {
        check.sentence("the last 40 events (not packets, nor fewer)");
        FeedDesk x = packetsOfOne(events);
        x.line(0, 2, 0);
        check.due("packet 1", x.askReplay(0), 1);
        check.due(events + " events", x.serveReplay(0), events <= 40 ? 1 : 2);
        FeedDesk y = new FeedDesk();
        Feeds.clears(y, 0, events - 35);
        Feeds.fullPackets(y, 0, 7);
        y.line(0, 2, 0);
        y.askReplay(0);
        check.due(events + " events", y.serveReplay(0), events <= 40 ? 1 : 2);
    }

    private static void packetThatIsPartlyTooOld() {
        check.sentence("if all their events are among the last 40 events (one of five is not)");
        FeedDesk x = new FeedDesk();
        Feeds.fullPackets(x, 0, 8);
        x.line(0, 2, 0);
        check.due("packet 1", x.askReplay(0), 1);
        Feeds.clears(x, 0, 1);
        check.due("its first event is the 41st from the end", x.serveReplay(0), 2);
        state(x, 3, 2, 0, 0);
    }

    private static void firstPacketDecides() {
        check.sentence("if all their events are among the last 40 events (of all packets of the gap)");
        FeedDesk x = new FeedDesk();
        Feeds.clears(x, 0, 1);
        Feeds.fullPackets(x, 0, 8);
        x.line(0, 4, 0);
        check.due("1 to 3", x.askReplay(0), 3);
        check.due("2 and 3 are young, but 1 is not", x.serveReplay(0), 2);
        state(x, 5, 4, 0, 0);
        check.due("the five events of 4 are held, none of 2 and 3", x.receiver(0, 3), 5);
        FeedDesk y = new FeedDesk();
        Feeds.clears(y, 0, 1);
        Feeds.fullPackets(y, 0, 8);
        y.line(0, 1, 0);
        y.line(0, 4, 0);
        check.due("2 and 3", y.askReplay(0), 2);
        check.due("both are young", y.serveReplay(0), 1);
        state(y, 5, 4, 0, 16);
    }

    private static void wholeGapOfForty() {
        check.sentence("the ANSWER is these packets, and then they are heard one by one");
        FeedDesk x = packetsOfOne(40);
        x.line(0, 40, 0);
        check.due("1 to 40", x.askReplay(0), 40);
        check.due("they come", x.serveReplay(0), 1);
        state(x, 41, 40, 0, 40);
        check.due("sound", x.sound(0, 0), 1);
        FeedDesk y = packetsOfOne(41);
        y.line(0, 41, 0);
        check.due("1 to 41", y.askReplay(0), 41);
        check.due("too old", y.serveReplay(0), 2);
        state(y, 42, 41, 0, 0);
    }

    private static void openPacketIsNotClosed() {
        check.sentence("of all packets that were closed (when the answer comes)");
        FeedDesk x = new FeedDesk();
        Feeds.fullPackets(x, 0, 8);
        x.line(0, 2, 0);
        x.line(0, 2, 1);
        x.clear(0);
        x.askReplay(0);
        check.due("event 41 is in the open packet", x.serveReplay(0), 1);
        check.due("asked in time", x.askReplay(1), 1);
        x.publish();
        check.due("event 41 is in a closed packet", x.serveReplay(1), 2);
    }

    private static void behindTheGap() {
        check.sentence("NEXT becomes the one behind the gap (and goes on with those that are kept)");
        FeedDesk x = packetsOfOne(60);
        x.line(0, 3, 0);
        x.line(0, 4, 0);
        x.line(0, 6, 0);
        check.due("1 and 2", x.askReplay(0), 2);
        check.due("too old", x.serveReplay(0), 2);
        state(x, 5, 6, 1, 0);
        check.due("events 3 and 4 are held", x.receiver(0, 3), 2);
        check.due("packets of the gap are nothing now", x.line(0, 2, 0), 0);
        check.due("NEXT + 6 from there", x.line(0, 11, 0), 2);
        check.due("NEXT + 7 from there", x.line(0, 12, 0), 3);
        check.due("5", x.line(0, 5, 0), 1);
        state(x, 7, 12, 1, 0);
    }

    private static void behindTheGapToHighest() {
        check.sentence("NEXT becomes the one behind the gap (none being kept)");
        FeedDesk x = packetsOfOne(60);
        x.line(0, 60, 0);
        check.due("1 to 60", x.askReplay(0), 60);
        check.due("too old", x.serveReplay(0), 2);
        state(x, 61, 60, 0, 0);
        check.due("no gap is left", x.askReplay(0), 0);
        check.due("packet 61 is not there yet", x.line(0, 61, 0), -2);
        Feeds.clears(x, 1, 1);
        check.due("now it is", x.line(0, 61, 0), 1);
        check.due("its event is applied", x.at(0, 1), 1);
    }

    private static void tooOldIsNotHeard() {
        check.sentence("otherwise TOO OLD (no packet of the gap is heard)");
        FeedDesk x = packetsOfOne(60);
        x.line(0, 8, 0);
        check.due("1 to 8", x.askReplay(0), 8);
        x.line(0, 2, 0);
        x.line(0, 7, 0);
        state(x, 1, 8, 2, 0);
        check.due("too old", x.serveReplay(0), 2);
        state(x, 9, 8, 0, 0);
        check.due("what was kept of the gap is not taken", x.receiver(0, 3), 0);
        FeedDesk y = packetsOfOne(60);
        y.line(0, 7, 0);
        check.due("1 to 6", y.askReplay(0), 6);
        y.line(0, 6, 0);
        state(y, 1, 7, 2, 0);
        check.due("too old", y.serveReplay(0), 2);
        state(y, 8, 7, 0, 0);
        check.due("only 7 is taken, not the gap's last, though it was kept", y.receiver(0, 3), 1);
    }

    private static void eachInstrumentNeeds() {
        check.sentence("each instrument NEEDS a snapshot that covers the gap's last packet");
        FeedDesk x = packetsOfOne(60);
        x.line(0, 3, 0);
        x.askReplay(0);
        check.due("too old", x.serveReplay(0), 2);
        check.due("HIGHEST is below NEXT", x.receiver(0, 0) - x.receiver(0, 1), 1);
        for (int instrument = 0; instrument < 4; instrument++) {
            check.due("not sound, with events or without", x.sound(0, instrument), 0);
            check.due("the other receiver needs nothing", x.sound(1, instrument), 1);
        }
        FeedDesk y = packetsOfOne(40);
        y.line(0, 3, 0);
        y.askReplay(0);
        check.due("not too old", y.serveReplay(0), 1);
        for (int instrument = 0; instrument < 4; instrument++) {
            check.due("sound", y.sound(0, instrument), 1);
        }
    }

    private static void askedForNothing() {
        check.sentence("0 when it has asked for nothing");
        FeedDesk x = packetsOfOne(9);
        check.due("new", x.serveReplay(0), 0);
        x.line(0, 5, 0);
        check.due("there is a gap, but it has not asked", x.serveReplay(0), 0);
        state(x, 1, 5, 1, 0);
        x.line(0, 5, 1);
        check.due("the other receiver asks", x.askReplay(1), 4);
        check.due("this one has not", x.serveReplay(0), 0);
        state(x, 1, 5, 1, 0);
        check.due("the other gets its own", x.serveReplay(1), 1);
        state(x, 1, 5, 1, 0);
    }

    private static void askedForNoMore() {
        check.sentence("The answer to what it asked for comes (that is asked for no more)");
        FeedDesk x = packetsOfOne(50);
        x.line(0, 13, 0);
        check.due("1 to 13", x.askReplay(0), 13);
        check.due("too old", x.serveReplay(0), 2);
        check.due("once", x.serveReplay(0), 0);
        x.line(0, 16, 0);
        check.due("14 and 15", x.askReplay(0), 2);
        check.due("the packets", x.serveReplay(0), 1);
        x.line(0, 19, 0);
        check.due("a new gap, not asked for", x.serveReplay(0), 0);
        state(x, 17, 19, 1, 0);
    }

    private static void forgottenByTheNextAsk() {
        check.sentence("What it asked for before is forgotten");
        FeedDesk x = packetsOfOne(12);
        x.line(0, 8, 0);
        check.due("1 to 8", x.askReplay(0), 8);
        x.line(0, 2, 0);
        check.due("1", x.askReplay(0), 1);
        check.due("it comes", x.serveReplay(0), 1);
        state(x, 3, 8, 0, 2);
        check.due("3 to 8 are not asked for", x.serveReplay(0), 0);
        FeedDesk y = packetsOfOne(12);
        y.line(0, 2, 0);
        check.due("1", y.askReplay(0), 1);
        y.line(0, 1, 0);
        check.due("no gap: asked for nothing", y.askReplay(0), 0);
        check.due("no answer", y.serveReplay(0), 0);
    }

    private static void partlyPassed() {
        check.sentence("of a gap that is partly passed, only the rest counts");
        for (int passed = 1; passed <= 4; passed++) {
            FeedDesk x = packetsOfOne(9);
            x.line(0, 6, 0);
            check.due("1 to 5", x.askReplay(0), 5);
            for (int packet = 1; packet <= passed; packet++) {
                x.line(0, packet, 0);
            }
            check.due("the rest comes", x.serveReplay(0), 1);
            state(x, 7, 6, 0, 6);
        }
    }

    private static void allPassed() {
        check.sentence("0 when it has asked for packets that are all passed by now");
        FeedDesk x = packetsOfOne(60);
        x.line(0, 3, 0);
        check.due("1 and 2", x.askReplay(0), 2);
        x.line(0, 1, 0);
        x.line(0, 2, 0);
        x.line(0, 6, 0);
        check.due("both are passed", x.serveReplay(0), 0);
        state(x, 4, 6, 1, 3);
        check.due("no need arises, old as they are", x.sound(0, 1), 0);
        x.line(0, 4, 0);
        x.line(0, 5, 0);
        check.due("sound without a snapshot", x.sound(0, 1), 1);
    }

    private static void onlyWhatItAskedFor() {
        check.sentence("The answer to what it asked for comes (not what is missing since)");
        FeedDesk x = packetsOfOne(30);
        x.line(0, 8, 0);
        check.due("1 to 8", x.askReplay(0), 8);
        x.line(0, 20, 0);
        check.due("they come", x.serveReplay(0), 1);
        state(x, 9, 20, 0, 8);
        check.due("9 to 20", x.askReplay(0), 12);
        x.line(0, 14, 0);
        check.due("they come, 14 with them", x.serveReplay(0), 1);
        state(x, 21, 20, 0, 20);
    }

    private static void keptSinceItAsked() {
        check.sentence("they are heard one by one (also those that are kept since)");
        for (int kept = 2; kept <= 6; kept++) {
            FeedDesk x = packetsOfOne(12);
            x.line(0, 7, 0);
            check.due("1 to 6", x.askReplay(0), 6);
            x.line(0, kept, 0);
            check.due("they come", x.serveReplay(0), 1);
            state(x, 8, 7, 0, 7);
        }
    }

    private static void restDecides() {
        check.sentence("of a gap that is partly passed, only the rest counts (for its age, too)");
        FeedDesk x = new FeedDesk();
        Feeds.fullPackets(x, 0, 10);
        x.line(0, 5, 0);
        check.due("1 to 4", x.askReplay(0), 4);
        x.line(0, 1, 0);
        check.due("2 is too old", x.serveReplay(0), 2);
        state(x, 6, 5, 0, 5);
        FeedDesk y = new FeedDesk();
        Feeds.fullPackets(y, 0, 10);
        y.line(0, 5, 0);
        check.due("1 to 4", y.askReplay(0), 4);
        y.line(0, 1, 0);
        y.line(0, 2, 0);
        check.due("3 is young", y.serveReplay(0), 1);
        state(y, 6, 5, 0, 25);
    }
}
