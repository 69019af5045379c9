/** Promises 18 to 20: best, order, halted. */
public final class BookTest {
    private static final int NO_LEVEL = -2000000, WRONG_LEVEL = -4000000;
    private static final Check check = new Check();

    public static void main(String[] args) {
        wrongNumbers();
        for (int receiver = -1; receiver < 2; receiver++) {
            bookOrder(receiver);
            levels(receiver);
            fullBook(receiver);
            halting(receiver);
        }
        booksAreApart();
        check.end();
    }

    private static void wrongNumbers() {
        FeedDesk x = new FeedDesk();
        x.add(0, 1, 0, 1, 1);
        int[][] best = {{-2, 0, 0, 0, 0}, {2, 0, 0, 0, 0}, {-1, -1, 0, 0, 0}, {-1, 4, 0, 0, 0}, {-1, 0, -1, 0, 0},
            {-1, 0, 2, 0, 0}, {-1, 0, 0, -1, 0}, {-1, 0, 0, 0, -1}, {-1, 0, 0, 0, 3},
            {-1, 0, 0, Integer.MIN_VALUE, 0}};
        for (int[] a : best) {
            check.due("best of wrong numbers", x.best(a[0], a[1], a[2], a[3], a[4]), WRONG_LEVEL);
        }
        int[][] order = {{-2, 0, 0, 0}, {2, 0, 0, 0}, {-1, -1, 0, 0}, {-1, 4, 0, 0}, {-1, 0, -1, 0}, {-1, 0, 2, 0},
            {-1, 0, 0, -1}, {-1, 0, 0, 24}, {-1, 0, 0, Integer.MAX_VALUE}};
        for (int[] a : order) {
            check.due("order of wrong numbers", x.order(a[0], a[1], a[2], a[3]), -2);
        }
        int[][] halted = {{-2, 0}, {2, 0}, {-1, -1}, {-1, 4}, {0, 4}, {Integer.MAX_VALUE, 0}};
        for (int[] a : halted) {
            check.due("halted of wrong numbers", x.halted(a[0], a[1]), -2);
        }
        check.due("the last place", x.order(-1, 0, 0, 23), -1);
        check.due("a far level", x.best(-1, 0, 0, Integer.MAX_VALUE, 0), NO_LEVEL);
    }

    /** Closes the open packet, and lets both receivers hear it. */
    private static void send(FeedDesk x) {
        int packet = x.publish();
        x.line(0, packet, 0);
        x.line(1, packet, 1);
    }

    private static void rows(FeedDesk x, int receiver, int side, int... ids) {
        for (int i = 0; i < ids.length; i++) {
            check.due("order " + i + " of side " + side, x.order(receiver, 1, side, i), ids[i]);
        }
        check.due("none behind them", x.order(receiver, 1, side, ids.length), -1);
    }

    private static void bookOrder(int receiver) {
        FeedDesk x = new FeedDesk();
        x.add(1, 11, 0, 100, 1);
        x.add(1, 12, 0, 101, 1);
        x.add(1, 13, 0, 99, 1);
        x.add(1, 14, 0, 100, 1);
        x.add(1, 15, 0, 101, 1);
        send(x);
        x.add(1, 21, 1, 100, 1);
        x.add(1, 22, 1, 99, 1);
        x.add(1, 23, 1, 101, 1);
        x.add(1, 24, 1, 100, 9);
        x.add(1, 25, 1, -7, 1);
        send(x);
        rows(x, receiver, 0, 12, 15, 11, 14, 13);
        rows(x, receiver, 1, 25, 22, 21, 24, 23);
        x.cancel(1, 11);
        x.change(1, 24, 2);
        x.execute(1, 25, 1);
        x.add(1, 11, 0, 100, 1);
        x.add(1, 10, 0, 102, 1);
        send(x);
        rows(x, receiver, 0, 10, 12, 15, 14, 11, 13);
        rows(x, receiver, 1, 22, 21, 24, 23);
        x.cancel(1, 13);
        x.cancel(1, 23);
        x.cancel(1, 22);
        send(x);
        rows(x, receiver, 0, 10, 12, 15, 14, 11);
        rows(x, receiver, 1, 21, 24);
        x.clear(1);
        x.add(1, 30, 1, 0, 1);
        send(x);
        rows(x, receiver, 0);
        rows(x, receiver, 1, 30);
    }

    private static void level(FeedDesk x, int receiver, int side, int level, int price, int sum, int count) {
        String told = "side " + side + ", level " + level;
        check.due(told + ": price", x.best(receiver, 1, side, level, 0), price);
        check.due(told + ": sum", x.best(receiver, 1, side, level, 1), sum);
        check.due(told + ": orders", x.best(receiver, 1, side, level, 2), count);
    }

    private static void levels(int receiver) {
        FeedDesk x = new FeedDesk();
        x.add(1, 1, 0, -1, 5);
        x.add(1, 2, 0, -2, 6);
        x.add(1, 3, 0, -1, 7);
        x.add(1, 4, 1, -1, 8);
        x.add(1, 5, 0, -3, 9);
        send(x);
        x.add(1, 6, 0, -4, 10);
        x.add(1, 7, 1, -2, 1000000);
        x.add(1, 8, 1, -2, 1000000);
        x.add(1, 9, 1, -2, 1000000);
        send(x);
        level(x, receiver, 0, 0, -1, 12, 2);
        level(x, receiver, 0, 1, -2, 6, 1);
        level(x, receiver, 0, 2, -3, 9, 1);
        level(x, receiver, 0, 3, -4, 10, 1);
        level(x, receiver, 0, 4, NO_LEVEL, NO_LEVEL, NO_LEVEL);
        level(x, receiver, 1, 0, -2, 3000000, 3);
        level(x, receiver, 1, 1, -1, 8, 1);
        level(x, receiver, 1, 2, NO_LEVEL, NO_LEVEL, NO_LEVEL);
        x.execute(1, 2, 6);
        x.execute(1, 1, 4);
        x.change(1, 8, 1);
        send(x);
        level(x, receiver, 0, 0, -1, 8, 2);
        level(x, receiver, 0, 1, -3, 9, 1);
        level(x, receiver, 1, 0, -2, 2000001, 3);
    }

    private static void fullBook(int receiver) {
        FeedDesk x = new FeedDesk();
        for (int id = 1; id <= 24; id++) {
            x.add(1, id, 1, id % 3, 1);
            if (id % 5 == 0 || id == 24) {
                send(x);
            }
        }
        for (int i = 0; i < 24; i++) {
            check.due("order " + i, x.order(receiver, 1, 1, i), (i / 8 + 2) % 3 + 1 + i % 8 * 3);
        }
        level(x, receiver, 1, 2, 2, 8, 8);
        x.execute(1, 24, 1);
        x.add(1, 25, 0, 0, 1);
        send(x);
        check.due("the buy", x.order(receiver, 1, 0, 0), 25);
        check.due("23 sells", x.order(receiver, 1, 1, 22), 23);
        check.due("no more", x.order(receiver, 1, 1, 23), -1);
    }

    private static void halting(int receiver) {
        FeedDesk x = new FeedDesk();
        check.due("not halted", x.halted(receiver, 1), 0);
        x.halt(1, true);
        send(x);
        check.due("halted", x.halted(receiver, 1), 1);
        check.due("the others are not", x.halted(receiver, 0), 0);
        x.clear(1);
        send(x);
        check.due("the halt stays", x.halted(receiver, 1), 1);
        x.halt(1, false);
        send(x);
        check.due("not halted again", x.halted(receiver, 1), 0);
    }

    private static void booksAreApart() {
        FeedDesk x = new FeedDesk();
        x.add(2, 1, 0, 5, 5);
        x.publish();
        x.halt(2, true);
        x.publish();
        x.line(0, 1, 1);
        check.due("receiver 1 has it", x.order(1, 2, 0, 0), 1);
        check.due("receiver 0 has not", x.order(0, 2, 0, 0), -1);
        check.due("nor a level", x.best(0, 2, 0, 0, 0), NO_LEVEL);
        check.due("receiver 1 is not halted", x.halted(1, 2), 0);
        check.due("the publisher is", x.halted(-1, 2), 1);
        check.due("other instruments have nothing", x.order(1, 1, 0, 0), -1);
    }
}
