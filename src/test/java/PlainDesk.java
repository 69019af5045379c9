import java.util.ArrayList;
import java.util.Collections;
import java.util.List;
import java.util.TreeMap;
import java.util.TreeSet;

/**
 * The document told a second time, for comparison: a receiver has no book of its own here, only a number
 * of events, and its book is made anew from the publisher's history each time that it is asked for.
 */
final class PlainDesk {
    static final int NONE = -1, WRONG = -2, REFUSED = -3, FULL = -4, FAR = 2000000;

    static final class Order {
        final int id, side, price;
        int size;
        final int came;
        Order(int id, int side, int price, int size, int came) {
            this.id = id; this.side = side; this.price = price; this.size = size; this.came = came;
        }
    }

    static final class Happening {
        final int sort, instrument, number, id, side, price, size;
        Happening(int sort, int instrument, int number, int id, int side, int price, int size) {
            this.sort = sort; this.instrument = instrument; this.number = number;
            this.id = id; this.side = side; this.price = price; this.size = size;
        }
    }

    static final class Sheet {
        final List<Order> orders = new ArrayList<>();
        boolean stopped = false;

        Order find(int id) {
            for (Order o : orders) if (o.id == id) return o;
            return null;
        }

        List<Order> side(int side) {
            List<Order> out = new ArrayList<>();
            for (Order o : orders) if (o.side == side) out.add(o);
            out.sort((a, b) -> a.price == b.price ? a.came - b.came
                    : side == 0 ? b.price - a.price : a.price - b.price);
            return out;
        }

        int level(int side, int level, int what) {
            TreeMap<Integer, int[]> levels = new TreeMap<>(side == 0 ? Collections.<Integer>reverseOrder() : null);
            for (Order o : orders) {
                if (o.side != side) continue;
                int[] row = levels.computeIfAbsent(o.price, p -> new int[] {p, 0, 0});
                row[1] += o.size;
                row[2]++;
            }
            if (level >= levels.size()) return NONE * FAR;
            return new ArrayList<>(levels.values()).get(level)[what];
        }

        List<Integer> view() {
            List<Integer> out = new ArrayList<>();
            for (int side = 0; side < 2; side++)
                for (int level = 0; level < 3; level++)
                    for (int what = 0; what < 3; what++) out.add(level(side, level, what));
            out.add(stopped ? 1 : 0);
            return out;
        }
    }

    static final class Shot {
        final int instrument, events, covers, pieces;
        Shot(int instrument, int events, int covers, int pieces) {
            this.instrument = instrument; this.events = events; this.covers = covers; this.pieces = pieces;
        }
    }

    static final class Hearer {
        int next = 1, highest = 0;
        final TreeSet<Integer> kept = new TreeSet<>();
        final TreeSet<Integer> asked = new TreeSet<>();
        final int[] at = new int[4];
        final int[] need = new int[4];
        final List<TreeSet<Integer>> held = new ArrayList<>();
        final List<Integer> dirtyRow = new ArrayList<>();
        List<Integer> fixed = null;
        Hearer() { for (int i = 0; i < 4; i++) held.add(new TreeSet<>()); }
    }

    final List<List<Happening>> history = new ArrayList<>();
    final List<List<Happening>> packets = new ArrayList<>();
    final List<Happening> open = new ArrayList<>();
    final List<Shot> shots = new ArrayList<>();
    final Hearer[] hearers = {new Hearer(), new Hearer()};
    int events = 0;
    /** How often each of the rarer cases came up, so that a test can see that it met them. */
    final TreeMap<String, Integer> met = new TreeMap<>();

    PlainDesk() { for (int i = 0; i < 4; i++) history.add(new ArrayList<>()); }

    void meet(String what) { met.merge(what, 1, Integer::sum); }

    Sheet sheet(int instrument, int upTo) {
        Sheet s = new Sheet();
        for (Happening h : history.get(instrument).subList(0, upTo)) {
            Order o = s.find(h.id);
            switch (h.sort) {
                case 0: s.orders.add(new Order(h.id, h.side, h.price, h.size, h.number)); break;
                case 1: o.size = h.size; break;
                case 2: o.size -= h.size; if (o.size == 0) s.orders.remove(o); break;
                case 3: s.orders.remove(o); break;
                case 4: s.stopped = h.size == 1; break;
                default: s.orders.clear();
            }
        }
        return s;
    }

    Sheet now(int instrument) { return sheet(instrument, history.get(instrument).size()); }

    static boolean in(int n, int low, int high) { return n >= low && n <= high; }

    private int log(boolean allowed, int sort, int instrument, int id, int side, int price, int size) {
        if (!allowed) { meet("refused"); return REFUSED; }
        if (open.size() == 5) { meet("packet full"); return FULL; }
        if (events == 400) { meet("all full"); return FULL; }
        List<Happening> past = history.get(instrument);
        Happening h = new Happening(sort, instrument, past.size() + 1, id, side, price, size);
        past.add(h);
        open.add(h);
        events++;
        return h.number;
    }

    int add(int instrument, int id, int side, int price, int size) {
        if (!in(instrument, 0, 3) || !in(id, 1, 1000000) || !in(side, 0, 1) || !in(price, -1000000, 1000000)
                || !in(size, 1, 1000000)) return WRONG;
        Sheet s = now(instrument);
        if (s.orders.size() == 24) meet("book full");
        return log(s.find(id) == null && s.orders.size() < 24, 0, instrument, id, side, price, size);
    }

    int change(int instrument, int id, int size) {
        if (!in(instrument, 0, 3) || !in(id, 1, 1000000) || !in(size, 1, 1000000)) return WRONG;
        Order o = now(instrument).find(id);
        return log(o != null && size < o.size, 1, instrument, id, 0, 0, size);
    }

    int execute(int instrument, int id, int size) {
        if (!in(instrument, 0, 3) || !in(id, 1, 1000000) || !in(size, 1, 1000000)) return WRONG;
        Sheet s = now(instrument);
        Order o = s.find(id);
        return log(o != null && !s.stopped && o.size >= size, 2, instrument, id, 0, 0, size);
    }

    int cancel(int instrument, int id) {
        if (!in(instrument, 0, 3) || !in(id, 1, 1000000)) return WRONG;
        return log(now(instrument).find(id) != null, 3, instrument, id, 0, 0, 0);
    }

    int halt(int instrument, boolean on) {
        if (!in(instrument, 0, 3)) return WRONG;
        return log(now(instrument).stopped != on, 4, instrument, 0, 0, 0, on ? 1 : 0);
    }

    int clear(int instrument) {
        if (!in(instrument, 0, 3)) return WRONG;
        return log(true, 5, instrument, 0, 0, 0, 0);
    }

    int publish() {
        if (open.isEmpty()) return 0;
        packets.add(new ArrayList<>(open));
        open.clear();
        return packets.size();
    }

    private static void four(List<Integer> out, int n) {
        for (int shift = 24; shift >= 0; shift -= 8) out.add((n >> shift) & 0xff);
    }

    int packetByte(int packet, int i) {
        if (!in(packet, 1, packets.size())) return NONE;
        List<Integer> out = new ArrayList<>();
        four(out, packet);
        out.add(packets.get(packet - 1).size());
        for (Happening h : packets.get(packet - 1)) {
            out.add(h.sort);
            out.add(h.instrument);
            four(out, h.number);
            four(out, h.id);
            out.add(h.side);
            four(out, h.price);
            four(out, h.size);
        }
        return in(i, 0, out.size() - 1) ? out.get(i) : NONE;
    }

    private void moveTo(Hearer r, int instrument, int at) {
        if (!sheet(instrument, r.at[instrument]).view().equals(sheet(instrument, at).view())
                && !r.dirtyRow.contains(instrument)) r.dirtyRow.add(instrument);
        r.at[instrument] = at;
    }

    private void goOn(Hearer r, int instrument) {
        TreeSet<Integer> held = r.held.get(instrument);
        while (!held.isEmpty() && held.first() <= r.at[instrument]) held.pollFirst();
        while (!held.isEmpty() && held.first() == r.at[instrument] + 1) {
            meet("held applied");
            moveTo(r, instrument, held.pollFirst());
        }
    }

    private void pass(Hearer r) {
        for (Happening h : packets.get(r.next - 1)) {
            int at = r.at[h.instrument];
            if (h.number == at + 1) {
                moveTo(r, h.instrument, h.number);
                goOn(r, h.instrument);
            } else if (h.number > at) {
                if (r.held.get(h.instrument).size() < 30) r.held.get(h.instrument).add(h.number);
                else meet("lost");
            } else {
                meet("event below AT");
            }
        }
        r.kept.remove(r.next);
        r.next++;
    }

    private int hear(Hearer r, int packet) {
        if (packet > r.highest) r.highest = packet;
        if (packet < r.next) return 0;
        if (packet > r.next + 6) { meet("dropped"); return 3; }
        if (packet > r.next) { r.kept.add(packet); return 2; }
        pass(r);
        while (r.kept.contains(r.next)) pass(r);
        return 1;
    }

    int line(int which, int packet, int receiver) {
        if (!in(which, 0, 1) || !in(packet, 1, packets.size()) || !in(receiver, 0, 1)) return WRONG;
        return hear(hearers[receiver], packet);
    }

    int askReplay(int receiver) {
        if (!in(receiver, 0, 1)) return WRONG;
        Hearer r = hearers[receiver];
        r.asked.clear();
        int end = r.kept.isEmpty() ? r.highest : r.kept.first() - 1;
        for (int p = r.next; p <= end; p++) r.asked.add(p);
        if (r.kept.isEmpty() && end >= r.next) meet("gap up to HIGHEST");
        return r.asked.size();
    }

    int serveReplay(int receiver) {
        if (!in(receiver, 0, 1)) return WRONG;
        Hearer r = hearers[receiver];
        TreeSet<Integer> rest = new TreeSet<>(r.asked.tailSet(r.next));
        if (rest.isEmpty() && !r.asked.isEmpty()) meet("all passed");
        if (!rest.isEmpty() && rest.size() < r.asked.size()) meet("partly passed");
        r.asked.clear();
        if (rest.isEmpty()) return 0;
        int closedEvents = 0;
        for (List<Happening> p : packets) closedEvents += p.size();
        int behind = 0;
        for (int p = 1; p < rest.first(); p++) behind += packets.get(p - 1).size();
        if (closedEvents - behind <= 40) {
            if (closedEvents - behind == 40) meet("just not too old");
            for (int p : rest) hear(r, p);
            return 1;
        }
        if (closedEvents - behind == 41) meet("just too old");
        int last = rest.last();
        for (int p : rest) if (r.kept.remove(p)) meet("kept in a gap that is too old");
        for (int i = 0; i < 4; i++) r.need[i] = last;
        r.next = last + 1;
        while (r.kept.contains(r.next)) pass(r);
        meet("too old");
        return 2;
    }

    int snapshotTurn() {
        int instrument = shots.size() % 4;
        int orders = now(instrument).orders.size();
        int pieces = orders == 0 ? 1 : orders % 3 == 0 ? orders / 3 : orders / 3 + 1;
        shots.add(new Shot(instrument, history.get(instrument).size(), packets.size(), pieces));
        return shots.size();
    }

    int hearSnapshot(int snapshot, int receiver, int skip) {
        if (!in(snapshot, Math.max(1, shots.size() - 7), shots.size()) || !in(receiver, 0, 1)) return WRONG;
        Shot shot = shots.get(snapshot - 1);
        Hearer r = hearers[receiver];
        int i = shot.instrument;
        if (in(skip, 1, shot.pieces)) return 0;
        boolean covered = r.need[i] != 0 && shot.covers >= r.need[i];
        if (r.need[i] != 0 && !covered) meet("need not covered");
        if (covered) r.need[i] = 0;
        if (shot.events > r.at[i]) {
            moveTo(r, i, shot.events);
            goOn(r, i);
            return 1;
        }
        if (covered) meet("only a need");
        return covered ? 2 : 0;
    }

    int sound(int receiver, int instrument) {
        if (!in(receiver, 0, 1) || !in(instrument, 0, 3)) return WRONG;
        Hearer r = hearers[receiver];
        return r.need[instrument] == 0 && r.highest < r.next ? 1 : 0;
    }

    int at(int receiver, int instrument) {
        if (!in(receiver, -1, 1) || !in(instrument, 0, 3)) return WRONG;
        return receiver == NONE ? history.get(instrument).size() : hearers[receiver].at[instrument];
    }

    int receiver(int receiver, int what) {
        if (!in(receiver, 0, 1) || !in(what, 0, 3)) return WRONG;
        Hearer r = hearers[receiver];
        int held = 0;
        for (TreeSet<Integer> h : r.held) held += h.size();
        return new int[] {r.next, r.highest, r.kept.size(), held}[what];
    }

    int best(int receiver, int instrument, int side, int level, int what) {
        if (!in(receiver, -1, 1) || !in(instrument, 0, 3) || !in(side, 0, 1) || level < 0 || !in(what, 0, 2))
            return WRONG * FAR;
        return sheet(instrument, at(receiver, instrument)).level(side, level, what);
    }

    int order(int receiver, int instrument, int side, int i) {
        if (!in(receiver, -1, 1) || !in(instrument, 0, 3) || !in(side, 0, 1) || !in(i, 0, 23)) return WRONG;
        List<Order> row = sheet(instrument, at(receiver, instrument)).side(side);
        return i < row.size() ? row.get(i).id : NONE;
    }

    int halted(int receiver, int instrument) {
        if (!in(receiver, -1, 1) || !in(instrument, 0, 3)) return WRONG;
        return sheet(instrument, at(receiver, instrument)).stopped ? 1 : 0;
    }

    int dirty(int reader) { return in(reader, 0, 1) ? hearers[reader].dirtyRow.size() : WRONG; }

    int read(int reader) {
        if (!in(reader, 0, 1)) return WRONG;
        Hearer r = hearers[reader];
        if (r.dirtyRow.isEmpty()) return NONE;
        int instrument = r.dirtyRow.remove(0);
        r.fixed = sheet(instrument, r.at[instrument]).view();
        return instrument;
    }

    int view(int reader, int side, int level, int what) {
        if (!in(reader, 0, 1) || !in(side, 0, 2) || !in(level, 0, 2) || !in(what, 0, 2)) return WRONG * FAR;
        if (side == 2 && (level != 0 || what != 0)) return WRONG * FAR;
        List<Integer> fixed = hearers[reader].fixed;
        if (fixed == null) return NONE * FAR;
        return side == 2 ? fixed.get(18) : fixed.get(side * 9 + level * 3 + what);
    }
}
