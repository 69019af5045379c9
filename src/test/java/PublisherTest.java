/** Promises 1 to 9: a new object, the six events, publish, packetByte. */
public final class PublisherTest {
    private static final int NO_LEVEL = -2000000;
    private static final Check check = new Check();

    public static void main(String[] args) {
        newObject();
        addTakesItsBounds();
        addRefusals();
        addIsFull();
        fourHundredEvents();
        changes();
        executions();
        cancels();
        halts();
        clears();
        publishing();
        bytes();
        bytesOfEachSort();
        check.end();
    }

    private static void newObject() {
        FeedDesk x = new FeedDesk();
        for (int r = -1; r < 2; r++) {
            for (int i = 0; i < 4; i++) {
                check.due("new: at", x.at(r, i), 0);
                check.due("new: halted", x.halted(r, i), 0);
                for (int side = 0; side < 2; side++) {
                    check.due("new: best", x.best(r, i, side, 0, 0), NO_LEVEL);
                    check.due("new: order", x.order(r, i, side, 0), -1);
                }
            }
        }
        for (int r = 0; r < 2; r++) {
            check.due("new: NEXT", x.receiver(r, 0), 1);
            check.due("new: HIGHEST", x.receiver(r, 1), 0);
            check.due("new: kept", x.receiver(r, 2), 0);
            check.due("new: held", x.receiver(r, 3), 0);
            check.due("new: sound", x.sound(r, 3), 1);
            check.due("new: askReplay", x.askReplay(r), 0);
            check.due("new: serveReplay", x.serveReplay(r), 0);
            check.due("new: dirty", x.dirty(r), 0);
            check.due("new: read", x.read(r), -1);
            check.due("new: view", x.view(r, 0, 0, 0), NO_LEVEL);
            check.due("new: hearSnapshot", x.hearSnapshot(1, r, 0), -2);
            check.due("new: line", x.line(0, 1, r), -2);
        }
        check.due("new: packetByte", x.packetByte(1, 0), -1);
        check.due("new: publish", x.publish(), 0);
    }

    private static void addTakesItsBounds() {
        FeedDesk x = new FeedDesk();
        int[][] wrong = {
            {-1, 1, 0, 0, 1}, {4, 1, 0, 0, 1}, {0, 0, 0, 0, 1}, {0, 1000001, 0, 0, 1}, {0, -5, 0, 0, 1},
            {0, 1, -1, 0, 1}, {0, 1, 2, 0, 1}, {0, 1, 0, -1000001, 1}, {0, 1, 0, 1000001, 1}, {0, 1, 0, 0, 0},
            {0, 1, 0, 0, -1}, {0, 1, 0, 0, 1000001}, {Integer.MIN_VALUE, 1, 0, 0, 1},
            {Integer.MAX_VALUE, 1, 0, 0, 1}, {0, Integer.MAX_VALUE, 0, 0, 1}, {0, 1, 0, Integer.MIN_VALUE, 1}};
        for (int[] a : wrong) {
            check.due("add of wrong numbers", x.add(a[0], a[1], a[2], a[3], a[4]), -2);
        }
        check.due("nothing has come of them", x.publish(), 0);
        check.due("add at the low bounds", x.add(0, 1, 0, -1000000, 1), 1);
        check.due("add at the high bounds", x.add(3, 1000000, 1, 1000000, 1000000), 1);
        check.due("low price", x.best(-1, 0, 0, 0, 0), -1000000);
        check.due("high price", x.best(-1, 3, 1, 0, 0), 1000000);
        check.due("high size", x.best(-1, 3, 1, 0, 1), 1000000);
        check.due("each instrument counts for itself", x.add(0, 2, 1, 5, 5), 2);
    }

    private static void addRefusals() {
        FeedDesk x = new FeedDesk();
        check.due("add", x.add(1, 7, 0, 10, 5), 1);
        check.due("the id is on an order", x.add(1, 7, 1, 99, 5), -3);
        check.due("wrong comes ahead of refused", x.add(1, 7, 2, 99, 5), -2);
        check.due("the same id elsewhere", x.add(2, 7, 0, 10, 5), 1);
        check.due("cancel", x.cancel(1, 7), 2);
        check.due("the id is free again", x.add(1, 7, 1, 11, 5), 3);
        x.publish();
        fillBook(x, 0, 24);
        check.due("24 orders, both sides together", x.add(0, 900, 0, 1, 1), -3);
        check.due("the refused one is nowhere", x.at(-1, 0), 24);
        x.publish();
        check.due("cancel makes room", x.cancel(0, 3), 25);
        check.due("one more", x.add(0, 900, 0, 1, 1), 26);
        check.due("and no more", x.add(0, 901, 0, 1, 1), -3);
    }

    /** Orders with ids from 1 on, on both sides in turn, in packets of five that are closed. */
    private static void fillBook(FeedDesk x, int instrument, int orders) {
        for (int id = 1; id <= orders; id++) {
            x.add(instrument, id, id % 2, id, 1);
            if (id % 5 == 0) {
                x.publish();
            }
        }
    }

    private static void addIsFull() {
        FeedDesk x = new FeedDesk();
        for (int id = 1; id <= 5; id++) {
            check.due("add " + id, x.add(id % 4, id, 0, id, 2), id == 5 ? 2 : 1);
        }
        check.due("the packet has 5: add", x.add(0, 6, 0, 1, 1), -4);
        check.due("the packet has 5: change", x.change(1, 1, 1), -4);
        check.due("the packet has 5: execute", x.execute(1, 1, 1), -4);
        check.due("the packet has 5: cancel", x.cancel(1, 1), -4);
        check.due("the packet has 5: halt", x.halt(1, true), -4);
        check.due("the packet has 5: clear", x.clear(1), -4);
        check.due("wrong comes first", x.add(0, 0, 0, 1, 1), -2);
        check.due("refused comes ahead of full", x.add(1, 1, 0, 1, 1), -3);
        check.due("refused comes ahead of full: halt", x.halt(0, false), -3);
        check.due("the full ones changed nothing", x.halted(-1, 1), 0);
        check.due("nor the orders", x.order(-1, 1, 0, 1), 1);
        check.due("nor their sizes", x.best(-1, 1, 0, 1, 1), 2);
        check.due("publish", x.publish(), 1);
        check.due("room again", x.add(0, 6, 0, 1, 1), 2);
    }

    private static void fourHundredEvents() {
        FeedDesk x = new FeedDesk();
        for (int n = 1; n <= 400; n++) {
            check.due("clear " + n, x.clear(n % 4), (n + 3) / 4);
            if (n % 5 == 0 && n < 400) {
                check.due("publish", x.publish(), n / 5);
            }
        }
        check.due("the last packet", x.publish(), 80);
        check.due("no event 401: add", x.add(0, 1, 0, 0, 1), -4);
        check.due("no event 401: clear", x.clear(0), -4);
        check.due("no event 401: halt", x.halt(0, true), -4);
        check.due("refused all the same", x.cancel(0, 1), -3);
        check.due("nothing to publish", x.publish(), 0);
        check.due("events", x.at(-1, 0), 100);
    }

    private static void changes() {
        FeedDesk x = new FeedDesk();
        x.add(0, 1, 0, 10, 5);
        x.add(0, 2, 0, 10, 5);
        check.due("change to as much", x.change(0, 1, 5), -3);
        check.due("change to more", x.change(0, 1, 6), -3);
        check.due("change of none", x.change(0, 3, 1), -3);
        check.due("change elsewhere", x.change(1, 1, 1), -3);
        int[][] wrong = {{-1, 1, 1}, {4, 1, 1}, {0, 0, 1}, {0, 1000001, 1}, {0, 1, 0}, {0, 1, -1}, {0, 1, 1000001}};
        for (int[] a : wrong) {
            check.due("change of wrong numbers", x.change(a[0], a[1], a[2]), -2);
        }
        check.due("change", x.change(0, 1, 4), 3);
        check.due("the new size", x.best(-1, 0, 0, 0, 1), 9);
        check.due("the place is kept", x.order(-1, 0, 0, 0), 1);
        x.halt(0, true);
        check.due("change while halted", x.change(0, 1, 1), 5);
        check.due("to the least size", x.best(-1, 0, 0, 0, 1), 6);
        x.publish();
        check.due("below 1 it can't go", x.change(0, 1, 1), -3);
    }

    private static void executions() {
        FeedDesk x = new FeedDesk();
        x.add(0, 1, 1, 10, 5);
        x.add(0, 2, 1, 10, 5);
        check.due("execute more than there is", x.execute(0, 1, 6), -3);
        check.due("execute of none", x.execute(0, 3, 1), -3);
        int[][] wrong = {{-1, 1, 1}, {4, 1, 1}, {0, 0, 1}, {0, 1000001, 1}, {0, 1, 0}, {0, 1, -1}, {0, 1, 1000001}};
        for (int[] a : wrong) {
            check.due("execute of wrong numbers", x.execute(a[0], a[1], a[2]), -2);
        }
        check.due("execute", x.execute(0, 1, 2), 3);
        check.due("so much less", x.best(-1, 0, 1, 0, 1), 8);
        check.due("the place is kept", x.order(-1, 0, 1, 0), 1);
        check.due("execute the rest", x.execute(0, 1, 3), 4);
        check.due("the order is gone", x.order(-1, 0, 1, 0), 2);
        check.due("it can't be executed", x.execute(0, 1, 1), -3);
        check.due("halt", x.halt(0, true), 5);
        x.publish();
        check.due("execute while halted", x.execute(0, 2, 1), -3);
        check.due("go on", x.halt(0, false), 6);
        check.due("execute again", x.execute(0, 2, 5), 7);
        check.due("nothing is left", x.best(-1, 0, 1, 0, 2), NO_LEVEL);
    }

    private static void cancels() {
        FeedDesk x = new FeedDesk();
        x.add(2, 1, 0, 10, 5);
        x.add(2, 2, 0, 11, 5);
        x.add(2, 3, 1, 12, 5);
        int[][] wrong = {{-1, 1}, {4, 1}, {2, 0}, {2, -1}, {2, 1000001}};
        for (int[] a : wrong) {
            check.due("cancel of wrong numbers", x.cancel(a[0], a[1]), -2);
        }
        check.due("cancel of none", x.cancel(2, 4), -3);
        check.due("cancel elsewhere", x.cancel(1, 1), -3);
        check.due("cancel", x.cancel(2, 2), 4);
        check.due("the next is first", x.order(-1, 2, 0, 0), 1);
        check.due("and last", x.order(-1, 2, 0, 1), -1);
        check.due("the other side stays", x.order(-1, 2, 1, 0), 3);
        check.due("cancel again", x.cancel(2, 2), -3);
        x.publish();
        x.halt(2, true);
        check.due("cancel while halted", x.cancel(2, 3), 6);
    }

    private static void halts() {
        FeedDesk x = new FeedDesk();
        check.due("halt off at first", x.halt(0, false), -3);
        check.due("halt of a wrong instrument", x.halt(4, true), -2);
        check.due("halt of a wrong instrument", x.halt(-1, false), -2);
        check.due("halt", x.halt(0, true), 1);
        check.due("halt again", x.halt(0, true), -3);
        check.due("halted", x.halted(-1, 0), 1);
        check.due("others are not", x.halted(-1, 1), 0);
        check.due("add while halted", x.add(0, 1, 0, 1, 1), 2);
        check.due("halt off", x.halt(0, false), 3);
        check.due("not halted", x.halted(-1, 0), 0);
    }

    private static void clears() {
        FeedDesk x = new FeedDesk();
        check.due("clear of an empty book", x.clear(0), 1);
        x.add(0, 1, 0, 1, 1);
        x.add(0, 2, 1, 1, 1);
        x.halt(0, true);
        check.due("clear", x.clear(0), 5);
        check.due("no buys", x.order(-1, 0, 0, 0), -1);
        check.due("no sells", x.order(-1, 0, 1, 0), -1);
        check.due("the halt stays", x.halted(-1, 0), 1);
        check.due("clear of a wrong instrument", x.clear(4), -2);
        check.due("clear of a wrong instrument", x.clear(-1), -2);
        check.due("the packet has 5", x.clear(0), -4);
        x.publish();
        check.due("the ids are free", x.add(0, 1, 0, 1, 1), 6);
    }

    private static void publishing() {
        FeedDesk x = new FeedDesk();
        check.due("nothing to close", x.publish(), 0);
        x.clear(0);
        check.due("packet 1 is open", x.packetByte(1, 0), -1);
        check.due("and can't be heard", x.line(0, 1, 0), -2);
        check.due("close", x.publish(), 1);
        check.due("nothing more to close", x.publish(), 0);
        check.due("refused, so no event", x.cancel(0, 1), -3);
        check.due("still nothing", x.publish(), 0);
        x.clear(0);
        check.due("numbers go on", x.publish(), 2);
    }

    private static void bytes() {
        FeedDesk x = new FeedDesk();
        x.add(3, 1000000, 1, -1000000, 999999);
        x.add(2, 258, 0, 1000000, 1);
        x.publish();
        int[] due = {0, 0, 0, 1, 2,
            0, 3, 0, 0, 0, 1, 0, 0x0f, 0x42, 0x40, 1, 0xff, 0xf0, 0xbd, 0xc0, 0, 0x0f, 0x42, 0x3f,
            0, 2, 0, 0, 0, 1, 0, 0, 1, 2, 0, 0, 0x0f, 0x42, 0x40, 0, 0, 0, 1};
        for (int i = 0; i < due.length; i++) {
            check.due("packetByte(1, " + i + ")", x.packetByte(1, i), due[i]);
        }
        check.due("behind the end", x.packetByte(1, due.length), -1);
        check.due("far behind the end", x.packetByte(1, Integer.MAX_VALUE), -1);
        check.due("ahead of the start", x.packetByte(1, -1), -1);
        check.due("far ahead of the start", x.packetByte(1, Integer.MIN_VALUE), -1);
        check.due("packet 0", x.packetByte(0, 0), -1);
        check.due("packet -1", x.packetByte(-1, 0), -1);
        check.due("packet 2", x.packetByte(2, 0), -1);
        check.due("a far packet", x.packetByte(Integer.MAX_VALUE, 0), -1);
    }

    private static void bytesOfEachSort() {
        FeedDesk x = new FeedDesk();
        x.add(1, 9, 1, 77, 50);
        x.publish();
        x.change(1, 9, 40);
        x.execute(1, 9, 30);
        x.halt(1, true);
        x.halt(1, false);
        x.cancel(1, 9);
        x.publish();
        x.clear(1);
        x.publish();
        int[][] due = {{1, 2, 9, 40}, {2, 3, 9, 30}, {4, 4, 0, 1}, {4, 5, 0, 0}, {3, 6, 9, 0}};
        for (int e = 0; e < due.length; e++) {
            eventBytes(x, 2, 5 + 19 * e, due[e]);
        }
        eventBytes(x, 3, 5, new int[] {5, 7, 0, 0});
        check.due("packet 2 has 5", x.packetByte(2, 4), 5);
        check.due("its last byte", x.packetByte(2, 99), 0);
        check.due("no more", x.packetByte(2, 100), -1);
        check.due("packet 3 has 1", x.packetByte(3, 4), 1);
    }

    /** Of an event without side and price: its sort, number, id and size, all below 256. */
    private static void eventBytes(FeedDesk x, int packet, int from, int[] due) {
        int[] row = new int[19];
        row[0] = due[0];
        row[1] = 1;
        row[5] = due[1];
        row[9] = due[2];
        row[18] = due[3];
        for (int i = 0; i < 19; i++) {
            check.due("packetByte(" + packet + ", " + (from + i) + ")", x.packetByte(packet, from + i), row[i]);
        }
    }
}
