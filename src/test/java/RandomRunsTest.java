import java.util.Random;
import java.util.TreeMap;

/** Long runs of calls, the same each time: every answer must be that of the plain model. */
public final class RandomRunsTest {
    private static final int RUNS = 600, CALLS = 512;
    private static final String[] MUST_MEET = {
        "refused", "packet full", "all full", "book full", "held applied", "lost", "event below AT", "dropped",
        "gap up to HIGHEST", "all passed", "partly passed", "just not too old", "just too old", "too old",
        "kept in a gap that is too old", "need not covered", "only a need"};

    private static final Check check = new Check();

    private final Random random;
    private final FeedDesk desk = new FeedDesk();
    private final PlainDesk plain = new PlainDesk();
    private final StringBuilder told = new StringBuilder();
    private final int instruments, ids, prices, eventShare, hearShare, snapshotShare, queryShare;
    private final boolean ordersOnly;
    /** A dense run wastes few calls: its events are mostly allowed, and its packets mostly full. */
    private final boolean isDense;
    /** A dense run that does little else, so that it comes to 400 events. */
    private final boolean isFlood;
    private final int lookBack;
    private boolean isDone = false;

    private RandomRunsTest(int seed) {
        random = new Random(seed);
        isDense = seed % 2 == 1;
        isFlood = seed % 8 == 1;
        lookBack = isFlood ? 12 : isDense ? 12 + random.nextInt(50) : 110;
        instruments = isDense ? 1 + random.nextInt(2) : 1 + random.nextInt(4);
        ids = 3 + random.nextInt(40);
        prices = 1 + random.nextInt(6);
        eventShare = isFlood ? 2000 : 20 + random.nextInt(60);
        hearShare = isFlood ? 0 : 5 + random.nextInt(40);
        snapshotShare = isFlood ? 0 : random.nextInt(20);
        queryShare = isFlood ? 0 : random.nextInt(isDense ? 3 : 30);
        ordersOnly = random.nextInt(3) == 0;
    }

    public static void main(String[] args) {
        int runs = args.length > 0 ? Integer.parseInt(args[0]) : RUNS;
        TreeMap<String, Integer> met = new TreeMap<>();
        for (int seed = 0; seed < runs && check.isClean(); seed++) {
            RandomRunsTest run = new RandomRunsTest(seed);
            run.go(seed);
            run.plain.met.forEach((what, times) -> met.merge(what, times, Integer::sum));
        }
        System.out.println("met: " + met);
        for (String what : MUST_MEET) {
            check.holds("the runs meet: " + what, met.containsKey(what));
        }
        check.end();
    }

    private void go(int seed) {
        for (int call = 0; call < CALLS && !isDone; call++) {
            if (call >= CALLS - lookBack || random.nextInt(100) < queryShare) {
                query();
            } else {
                act();
            }
        }
        if (isDone) {
            System.out.println("seed " + seed + ":\n" + told);
        }
    }

    private void same(String call, int got, int want) {
        told.append(call).append(" = ").append(got).append('\n');
        check.due(call, got, want);
        isDone = isDone || got != want;
    }

    /** Mostly a number from low to high, now and then one just outside, or far off. */
    private int about(int low, int high) {
        int dice = random.nextInt(400);
        if (dice == 0) {
            return low - 1;
        }
        if (dice == 1) {
            return high + 1;
        }
        if (dice == 2) {
            return random.nextBoolean() ? Integer.MIN_VALUE : Integer.MAX_VALUE;
        }
        return low + random.nextInt(high - low + 1);
    }

    private int instrument() {
        return random.nextInt(60) == 0 ? about(0, 3) : random.nextInt(instruments);
    }

    private void act() {
        int dice = random.nextInt(eventShare + hearShare + snapshotShare + 12);
        if (dice < eventShare) {
            if (isDense) {
                allowedEvent();
            } else {
                event();
            }
        } else if (dice < eventShare + hearShare) {
            hear();
        } else if (dice < eventShare + hearShare + snapshotShare) {
            snapshot();
        } else if (dice < eventShare + hearShare + snapshotShare + 6) {
            replay();
        } else {
            read();
        }
    }

    private void allowedEvent() {
        if (plain.events == 400 && random.nextInt(4) == 0) {
            event();
            return;
        }
        if (plain.open.size() == 5 || !isFlood && random.nextInt(25) == 0) {
            same("publish()", desk.publish(), plain.publish());
            return;
        }
        int i = random.nextInt(10) == 0 ? random.nextInt(4) : random.nextInt(instruments);
        int id = plain.at(-1, i) + 1000;
        int dice = random.nextInt(12);
        if (dice == 0) {
            boolean on = plain.halted(-1, i) == 0;
            same("halt(" + i + ", " + on + ")", desk.halt(i, on), plain.halt(i, on));
        } else if (dice == 1 || plain.now(i).orders.size() == 24) {
            same("clear(" + i + ")", desk.clear(i), plain.clear(i));
        } else if (dice < 5 && plain.order(-1, i, 0, 0) > 0) {
            int first = plain.order(-1, i, 0, 0);
            same("cancel(" + i + ", " + first + ")", desk.cancel(i, first), plain.cancel(i, first));
        } else {
            int side = random.nextInt(2);
            int price = random.nextInt(prices);
            same("add(" + i + ", " + id + ", " + side + ", " + price + ", 3)", desk.add(i, id, side, price, 3),
                    plain.add(i, id, side, price, 3));
        }
    }

    private void event() {
        int i = instrument();
        int id = about(1, ids);
        int size = about(1, 9);
        int dice = random.nextInt(100);
        if (dice < 18) {
            same("publish()", desk.publish(), plain.publish());
        } else if (dice < (ordersOnly ? 95 : 55)) {
            int side = about(0, 1);
            int price = random.nextInt(50) == 0 ? about(-1000000, 1000000) : about(-2, prices);
            int big = random.nextInt(50) == 0 ? about(1, 1000000) : size;
            same("add(" + i + ", " + id + ", " + side + ", " + price + ", " + big + ")",
                    desk.add(i, id, side, price, big), plain.add(i, id, side, price, big));
        } else if (dice < 65) {
            same("change(" + i + ", " + id + ", " + size + ")", desk.change(i, id, size), plain.change(i, id, size));
        } else if (dice < 80) {
            same("execute(" + i + ", " + id + ", " + size + ")", desk.execute(i, id, size),
                    plain.execute(i, id, size));
        } else if (dice < 90) {
            same("cancel(" + i + ", " + id + ")", desk.cancel(i, id), plain.cancel(i, id));
        } else if (dice < 98) {
            boolean on = random.nextInt(3) == 0;
            same("halt(" + i + ", " + on + ")", desk.halt(i, on), plain.halt(i, on));
        } else {
            same("clear(" + i + ")", desk.clear(i), plain.clear(i));
        }
    }

    private void hear() {
        int receiver = about(0, 1);
        int next = receiver == 1 ? plain.hearers[1].next : plain.hearers[0].next;
        int closed = plain.packets.size();
        int dice = random.nextInt(10);
        int packet = dice < 5 ? next : dice < 8 ? next + random.nextInt(9) - 1
                : dice < 9 ? closed - random.nextInt(3) : about(1, Math.max(1, closed));
        int which = about(0, 1);
        same("line(" + which + ", " + packet + ", " + receiver + ")", desk.line(which, packet, receiver),
                plain.line(which, packet, receiver));
    }

    private void snapshot() {
        int made = plain.shots.size();
        if (random.nextInt(3) == 0 || made == 0) {
            same("snapshotTurn()", desk.snapshotTurn(), plain.snapshotTurn());
            return;
        }
        int snapshot = made - random.nextInt(10);
        int receiver = about(0, 1);
        int skip = random.nextInt(3) == 0 ? about(0, 9) : 0;
        same("hearSnapshot(" + snapshot + ", " + receiver + ", " + skip + ")",
                desk.hearSnapshot(snapshot, receiver, skip), plain.hearSnapshot(snapshot, receiver, skip));
    }

    private void replay() {
        int receiver = about(0, 1);
        if (random.nextBoolean()) {
            same("askReplay(" + receiver + ")", desk.askReplay(receiver), plain.askReplay(receiver));
        } else {
            same("serveReplay(" + receiver + ")", desk.serveReplay(receiver), plain.serveReplay(receiver));
        }
    }

    private void read() {
        int reader = about(0, 1);
        same("read(" + reader + ")", desk.read(reader), plain.read(reader));
    }

    private void query() {
        int r = about(0, 1);
        int rOrNone = about(-1, 1);
        int i = instrument();
        int side = about(0, 1);
        int what = about(0, 2);
        switch (random.nextInt(9)) {
            case 0:
                int packet = about(1, Math.max(1, plain.packets.size()));
                int place = about(0, 104);
                same("packetByte(" + packet + ", " + place + ")", desk.packetByte(packet, place),
                        plain.packetByte(packet, place));
                break;
            case 1: same("sound(" + r + ", " + i + ")", desk.sound(r, i), plain.sound(r, i)); break;
            case 2: same("at(" + rOrNone + ", " + i + ")", desk.at(rOrNone, i), plain.at(rOrNone, i)); break;
            case 3:
                int which = about(0, 3);
                same("receiver(" + r + ", " + which + ")", desk.receiver(r, which), plain.receiver(r, which));
                break;
            case 4:
                int level = about(0, 4);
                same("best(" + rOrNone + ", " + i + ", " + side + ", " + level + ", " + what + ")",
                        desk.best(rOrNone, i, side, level, what), plain.best(rOrNone, i, side, level, what));
                break;
            case 5:
                int k = random.nextInt(5) == 0 ? about(0, 23) : about(0, 6);
                same("order(" + rOrNone + ", " + i + ", " + side + ", " + k + ")", desk.order(rOrNone, i, side, k),
                        plain.order(rOrNone, i, side, k));
                break;
            case 6:
                same("halted(" + rOrNone + ", " + i + ")", desk.halted(rOrNone, i), plain.halted(rOrNone, i));
                break;
            case 7: same("dirty(" + r + ")", desk.dirty(r), plain.dirty(r)); break;
            default:
                int part = about(0, 2);
                int height = part == 2 && random.nextInt(4) != 0 ? 0 : about(0, 2);
                int value = part == 2 && random.nextInt(4) != 0 ? 0 : what;
                same("view(" + r + ", " + part + ", " + height + ", " + value + ")",
                        desk.view(r, part, height, value), plain.view(r, part, height, value));
        }
    }
}
