/** Ways to bring a desk to a state that tests need. */
final class Feeds {
    private Feeds() {
    }

    /** So many packets of one event each: clears of the instrument, which no book refuses. */
    static void clears(FeedDesk x, int instrument, int packets) {
        for (int i = 0; i < packets; i++) {
            x.clear(instrument);
            x.publish();
        }
    }

    /** So many packets of five events each. */
    static void fullPackets(FeedDesk x, int instrument, int packets) {
        for (int i = 0; i < packets; i++) {
            for (int k = 0; k < 5; k++) {
                x.clear(instrument);
            }
            x.publish();
        }
    }

    /** A receiver that heard packet 2 alone, and whose packet 1 is too old: NEXT is 3, and 1 is needed. */
    static FeedDesk needy(int receiver) {
        FeedDesk x = new FeedDesk();
        clears(x, 0, 2);
        fullPackets(x, 1, 8);
        x.line(0, 2, receiver);
        x.askReplay(receiver);
        x.serveReplay(receiver);
        return x;
    }

    /** Some of everything: two receivers behind in two ways, an open packet, snapshots, dirty and read views. */
    static FeedDesk busy() {
        FeedDesk x = new FeedDesk();
        x.add(0, 1, 0, 10, 5);
        x.add(0, 2, 0, 9, 5);
        x.add(1, 3, 1, 20, 7);
        x.halt(2, true);
        x.publish();
        x.snapshotTurn();
        x.change(0, 1, 4);
        x.add(2, 4, 1, 30, 8);
        x.add(1, 5, 0, 19, 6);
        x.publish();
        fullPackets(x, 3, 7);
        x.cancel(0, 2);
        x.add(0, 6, 0, 10, 1);
        x.publish();
        x.snapshotTurn();
        x.add(1, 7, 1, 21, 1);
        x.execute(0, 1, 1);
        lateForOnePacket(x, 0);
        inNeedOfSnapshots(x, 1);
        return x;
    }

    /** It has passed packet 1 and asked for packet 2; 3 and 5 are kept; its reader has read one of three. */
    private static void lateForOnePacket(FeedDesk x, int receiver) {
        x.line(0, 1, receiver);
        x.line(0, 3, receiver);
        x.line(1, 5, receiver);
        x.askReplay(receiver);
        x.read(receiver);
    }

    /** Packet 1 was too old for it; it has heard a snapshot of instrument 0, has asked for 3 and 4, and keeps 5. */
    private static void inNeedOfSnapshots(FeedDesk x, int receiver) {
        x.line(0, 2, receiver);
        x.askReplay(receiver);
        x.serveReplay(receiver);
        x.hearSnapshot(1, receiver, 0);
        x.line(0, 5, receiver);
        x.askReplay(receiver);
    }
}
