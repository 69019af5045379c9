import java.util.ArrayList;
import java.util.List;

/** What a desk answers, in a row: desks in the same state answer the same rows. */
final class Probe {
    private static final int NO_LEVEL = -2000000;

    private final FeedDesk x;
    private final List<Integer> row = new ArrayList<>();

    private Probe(FeedDesk x) {
        this.x = x;
    }

    /** All that can be asked of books, receivers and readers. */
    static List<Integer> look(FeedDesk x) {
        Probe probe = new Probe(x);
        for (int receiver = -1; receiver < 2; receiver++) {
            for (int instrument = 0; instrument < 4; instrument++) {
                probe.book(receiver, instrument);
            }
        }
        for (int receiver = 0; receiver < 2; receiver++) {
            probe.receiver(receiver);
            probe.reader(receiver);
        }
        return probe.row;
    }

    /** What can't be asked for, as further calls bring it out: the open packet, what was asked, what is kept. */
    static List<Integer> use(FeedDesk x) {
        Probe probe = new Probe(x);
        probe.openPacket();
        for (int receiver = 0; receiver < 2; receiver++) {
            probe.reads(receiver);
            probe.note(x.serveReplay(receiver));
            probe.receiver(receiver);
            probe.packets(receiver);
        }
        probe.snapshots();
        for (int receiver = 0; receiver < 2; receiver++) {
            probe.receiver(receiver);
            probe.reads(receiver);
        }
        return probe.row;
    }

    private int note(int answer) {
        row.add(answer);
        return answer;
    }

    private void book(int receiver, int instrument) {
        note(x.at(receiver, instrument));
        note(x.halted(receiver, instrument));
        for (int side = 0; side < 2; side++) {
            int i = 0;
            while (i < 24 && note(x.order(receiver, instrument, side, i)) != -1) {
                i++;
            }
            int level = 0;
            while (level < 24 && note(x.best(receiver, instrument, side, level, 0)) != NO_LEVEL) {
                note(x.best(receiver, instrument, side, level, 1));
                note(x.best(receiver, instrument, side, level, 2));
                level++;
            }
        }
    }

    private void receiver(int receiver) {
        for (int what = 0; what < 4; what++) {
            note(x.receiver(receiver, what));
        }
        for (int instrument = 0; instrument < 4; instrument++) {
            note(x.sound(receiver, instrument));
            note(x.at(receiver, instrument));
        }
    }

    private void reader(int reader) {
        note(x.dirty(reader));
        for (int cell = 0; cell < 18; cell++) {
            note(x.view(reader, cell / 9, cell / 3 % 3, cell % 3));
        }
        note(x.view(reader, 2, 0, 0));
    }

    private void openPacket() {
        int packet = note(x.publish());
        int i = 0;
        while (i < 101 && note(x.packetByte(packet, i)) != -1) {
            i++;
        }
    }

    private void packets(int receiver) {
        int next = x.receiver(receiver, 0);
        for (int packet = next + 7; packet >= next; packet--) {
            note(x.line(0, packet, receiver));
        }
    }

    private void snapshots() {
        int last = note(x.snapshotTurn());
        for (int number = last - 8; number <= last; number++) {
            note(x.hearSnapshot(number, 0, 0));
            note(x.hearSnapshot(number, 1, 0));
        }
    }

    private void reads(int reader) {
        int times = 0;
        while (times < 5 && note(x.read(reader)) != -1) {
            note(x.view(reader, 0, 0, 0));
            note(x.view(reader, 2, 0, 0));
            times++;
        }
    }
}
