/** Ways to bring a desk to a state that tests need. */
final class Feeds {
    private Feeds() {
    }

    /** So many packets of one event each: clears of the instrument, which no book refuses. */
    static void clears(FeedDesk x, int instrument, int packets) {
        for (int i = 0; i < packets; i++) {
            x.clear(instrument);
            x.publish();
        }
    }

    /** So many packets of five events each. */
    static void fullPackets(FeedDesk x, int instrument, int packets) {
        for (int i = 0; i < packets; i++) {
            for (int k = 0; k < 5; k++) {
                x.clear(instrument);
            }
            x.publish();
        }
    }

    /** A receiver that heard packet 2 alone, and whose packet 1 is too old: NEXT is 3, and 1 is needed. */
    static FeedDesk needy(int receiver) {
        FeedDesk x = new FeedDesk();
        clears(x, 0, 2);
        fullPackets(x, 1, 8);
        x.line(0, 2, receiver);
        x.askReplay(receiver);
        x.serveReplay(receiver);
        return x;
    }
}
