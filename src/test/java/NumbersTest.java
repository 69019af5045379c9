import java.util.List;

/**
 * "Numbers that are not as said are WRONG; refused calls change nothing": of each number of each call, the last
 * ones that are allowed, and the first ones that are not.
 */
public final class NumbersTest {
    private static final int NONE = -1, WRONG = -2, REFUSED = -3, NO_LEVEL = -2000000, WRONG_LEVEL = -4000000;
    private static final int MOST = 1000000, MIN = Integer.MIN_VALUE, MAX = Integer.MAX_VALUE;
    private static final Check check = new Check();
    private static final List<Integer> BUSY_LOOK = Probe.look(Feeds.busy()), BUSY_USE = Probe.use(Feeds.busy());

    private interface Call {
        int on(FeedDesk x, int[] numbers);
    }

    private final String name;
    private final int wrongAnswer;
    private final Call call;
    private final int[] usual;

    /** A call with numbers that are all as said; one at a time is put in another's place. */
    private NumbersTest(String name, int wrongAnswer, Call call, int... usual) {
        this.name = name;
        this.wrongAnswer = wrongAnswer;
        this.call = call;
        this.usual = usual;
        check.sentence(name + ": numbers that are not as said are WRONG");
    }

    public static void main(String[] args) {
        events();
        packets();
        receivers();
        snapshots();
        books();
        readers();
        check.end();
    }

    /** Instruments 0 and 3 have the orders 1 and 1000000 of the greatest size; two packets, two snapshots. */
    private static FeedDesk ready() {
        FeedDesk x = new FeedDesk();
        x.add(0, 1, 0, 5, MOST);
        x.add(3, 1, 0, 5, MOST);
        x.publish();
        x.add(0, MOST, 1, 6, MOST);
        x.add(3, MOST, 1, 6, MOST);
        x.publish();
        x.snapshotTurn();
        x.snapshotTurn();
        return x;
    }

    /** Number k may be from low to high; the due answers are those of the ends. */
    private NumbersTest bounds(int k, int low, int dueLow, int high, int dueHigh) {
        allowed(k, low, dueLow).allowed(k, high, dueHigh).wrong(k, low - 1).wrong(k, MIN);
        return high == MAX ? this : wrong(k, high + 1).wrong(k, MAX);
    }

    private String told(int k, int number) {
        return name + " with " + number + " as number " + k;
    }

    private int[] with(int k, int number) {
        int[] numbers = usual.clone();
        numbers[k] = number;
        return numbers;
    }

    private NumbersTest allowed(int k, int number, int due) {
        check.due(told(k, number), call.on(ready(), with(k, number)), due);
        return this;
    }

    private NumbersTest wrong(int k, int number) {
        int[] numbers = with(k, number);
        check.due(told(k, number), call.on(ready(), numbers), wrongAnswer);
        FeedDesk x = Feeds.busy();
        call.on(x, numbers);
        check.holds(told(k, number) + " changes nothing that can be asked for", Probe.look(x).equals(BUSY_LOOK));
        FeedDesk y = Feeds.busy();
        call.on(y, numbers);
        check.holds(told(k, number) + " changes nothing that comes out later", Probe.use(y).equals(BUSY_USE));
        return this;
    }

    private static void events() {
        new NumbersTest("add", WRONG, (x, n) -> x.add(n[0], n[1], n[2], n[3], n[4]), 1, 7, 0, 0, 1)
                .bounds(0, 0, 3, 3, 3).bounds(1, 1, 1, MOST, 1).bounds(2, 0, 1, 1, 1)
                .bounds(3, -MOST, 1, MOST, 1).bounds(4, 1, 1, MOST, 1);
        new NumbersTest("change", WRONG, (x, n) -> x.change(n[0], n[1], n[2]), 0, 1, 5)
                .bounds(0, 0, 3, 3, 3).bounds(1, 1, 3, MOST, 3).bounds(2, 1, 3, MOST, REFUSED);
        new NumbersTest("execute", WRONG, (x, n) -> x.execute(n[0], n[1], n[2]), 0, 1, 5)
                .bounds(0, 0, 3, 3, 3).bounds(1, 1, 3, MOST, 3).bounds(2, 1, 3, MOST, 3);
        new NumbersTest("cancel", WRONG, (x, n) -> x.cancel(n[0], n[1]), 0, 1)
                .bounds(0, 0, 3, 3, 3).bounds(1, 1, 3, MOST, 3);
        new NumbersTest("halt on", WRONG, (x, n) -> x.halt(n[0], true), 0).bounds(0, 0, 3, 3, 3);
        new NumbersTest("halt off", WRONG, (x, n) -> x.halt(n[0], false), 0).bounds(0, 0, REFUSED, 3, REFUSED);
        new NumbersTest("clear", WRONG, (x, n) -> x.clear(n[0]), 0).bounds(0, 0, 3, 3, 3);
    }

    private static void packets() {
        new NumbersTest("line", WRONG, (x, n) -> x.line(n[0], n[1], n[2]), 0, 1, 0)
                .bounds(0, 0, 1, 1, 1).bounds(2, 0, 1, 1, 1)
                .allowed(1, 1, 1).allowed(1, 2, 2).wrong(1, 0).wrong(1, MIN).wrong(1, MAX);
        FeedDesk x = ready();
        check.due("line of packet 3, which was not begun", x.line(0, 3, 0), WRONG);
        x.clear(1);
        check.due("line of packet 3, which is open", x.line(0, 3, 0), WRONG);
        check.due("HIGHEST", x.receiver(0, 1), 0);
        // The document names no WRONG here: where no byte is, the answer is NONE.
        new NumbersTest("packetByte", NONE, (y, n) -> y.packetByte(n[0], n[1]), 1, 3)
                .bounds(0, 1, 1, 2, 2).bounds(1, 0, 0, 5 + 2 * 19 - 1, MOST & 255);
    }

    private static void receivers() {
        new NumbersTest("askReplay", WRONG, (x, n) -> x.askReplay(n[0]), 0).bounds(0, 0, 0, 1, 0);
        new NumbersTest("serveReplay", WRONG, (x, n) -> x.serveReplay(n[0]), 0).bounds(0, 0, 0, 1, 0);
        new NumbersTest("sound", WRONG, (x, n) -> x.sound(n[0], n[1]), 0, 0)
                .bounds(0, 0, 1, 1, 1).bounds(1, 0, 1, 3, 1);
        new NumbersTest("at", WRONG, (x, n) -> x.at(n[0], n[1]), NONE, 0)
                .bounds(0, NONE, 2, 1, 0).bounds(1, 0, 2, 3, 2);
        new NumbersTest("receiver", WRONG, (x, n) -> x.receiver(n[0], n[1]), 0, 0)
                .bounds(0, 0, 1, 1, 1).bounds(1, 0, 1, 3, 0);
    }

    private static void snapshots() {
        // A piece that a snapshot doesn't have is allowed: then all of it is heard.
        new NumbersTest("hearSnapshot", WRONG, (x, n) -> x.hearSnapshot(n[0], n[1], n[2]), 1, 0, 0)
                .bounds(0, 1, 1, 2, 0).bounds(1, 0, 1, 1, 1)
                .allowed(2, MIN, 1).allowed(2, -1, 1).allowed(2, 1, 0).allowed(2, 2, 1).allowed(2, MAX, 1);
    }

    private static void books() {
        new NumbersTest("best", WRONG_LEVEL, (x, n) -> x.best(n[0], n[1], n[2], n[3], n[4]), NONE, 0, 0, 0, 0)
                .bounds(0, NONE, 5, 1, NO_LEVEL).bounds(1, 0, 5, 3, 5).bounds(2, 0, 5, 1, 6)
                .bounds(3, 0, 5, MAX, NO_LEVEL).bounds(4, 0, 5, 2, 1);
        new NumbersTest("order", WRONG, (x, n) -> x.order(n[0], n[1], n[2], n[3]), NONE, 0, 0, 0)
                .bounds(0, NONE, 1, 1, NONE).bounds(1, 0, 1, 3, 1).bounds(2, 0, 1, 1, MOST)
                .bounds(3, 0, 1, 23, NONE);
        new NumbersTest("halted", WRONG, (x, n) -> x.halted(n[0], n[1]), NONE, 0)
                .bounds(0, NONE, 0, 1, 0).bounds(1, 0, 0, 3, 0);
    }

    private static void readers() {
        new NumbersTest("dirty", WRONG, (x, n) -> x.dirty(n[0]), 0).bounds(0, 0, 0, 1, 0);
        new NumbersTest("read", WRONG, (x, n) -> x.read(n[0]), 0).bounds(0, 0, NONE, 1, NONE);
        new NumbersTest("view of a level", WRONG_LEVEL, (x, n) -> x.view(n[0], n[1], n[2], n[3]), 0, 0, 0, 0)
                .bounds(0, 0, NO_LEVEL, 1, NO_LEVEL).bounds(1, 0, NO_LEVEL, 2, NO_LEVEL)
                .bounds(2, 0, NO_LEVEL, 2, NO_LEVEL).bounds(3, 0, NO_LEVEL, 2, NO_LEVEL);
        new NumbersTest("view of the halt", WRONG_LEVEL, (x, n) -> x.view(n[0], n[1], n[2], n[3]), 0, 2, 0, 0)
                .bounds(0, 0, NO_LEVEL, 1, NO_LEVEL).bounds(2, 0, NO_LEVEL, 0, NO_LEVEL)
                .bounds(3, 0, NO_LEVEL, 0, NO_LEVEL);
    }
}
