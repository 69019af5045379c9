/** The edges of packets, sentence by sentence: Terms, promises 2 to 9. */
public final class PacketEdgesTest {
    private static final int NONE = -1, WRONG = -2, REFUSED = -3, FULL = -4;
    private static final Check check = new Check();

    public static void main(String[] args) {
        fiveEvents();
        fiveOfAllInstruments();
        onlyTakenEventsCount();
        fourHundredAtAPacketsEnd();
        fourHundredInAnOpenPacket();
        packetsFromOne();
        emptyPacket();
        bytesOfOneEvent();
        bytesOfFiveEvents();
        highestByteFirst();
        numbersOfTwoBytes();
        whatAnEventDoesNotHave();
        the512thCall();
        check.end();
    }

    private static void fiveEvents() {
        check.sentence("the open PACKET, of up to 5 events");
        FeedDesk x = new FeedDesk();
        for (int n = 1; n <= 4; n++) {
            x.clear(0);
        }
        check.due("the fifth", x.clear(0), 5);
        check.due("the sixth", x.clear(0), FULL);
        check.due("the packet", x.publish(), 1);
        check.due("has five", x.packetByte(1, 4), 5);
        for (int n = 6; n <= 10; n++) {
            check.due("the next has room for five", x.clear(0), n);
        }
        check.due("and no more", x.clear(0), FULL);
        check.due("its number", x.publish(), 2);
        check.due("how many it has", x.packetByte(2, 4), 5);
    }

    private static void fiveOfAllInstruments() {
        check.sentence("the open PACKET, of up to 5 events (of all instruments and sorts)");
        FeedDesk x = new FeedDesk();
        x.add(0, 1, 0, 5, 5);
        x.execute(0, 1, 1);
        x.halt(1, true);
        x.clear(2);
        check.due("the fifth", x.change(0, 1, 1), 3);
        for (int instrument = 0; instrument < 4; instrument++) {
            check.due("the sixth", x.clear(instrument), FULL);
        }
        check.due("the packet", x.publish(), 1);
        check.due("room again", x.clear(3), 1);
    }

    private static void onlyTakenEventsCount() {
        check.sentence("refused calls change nothing (the open packet's room neither)");
        FeedDesk x = new FeedDesk();
        for (int i = 0; i < 10; i++) {
            check.due("refused", x.cancel(0, 1), REFUSED);
            check.due("wrong", x.cancel(0, 0), WRONG);
        }
        for (int n = 1; n <= 5; n++) {
            check.due("five are taken", x.clear(0), n);
        }
        check.due("and no more", x.clear(0), FULL);
    }

    /** Clears of instrument 0 in packets of five; the first one may have fewer. */
    private static FeedDesk events(int first, int all) {
        FeedDesk x = new FeedDesk();
        for (int n = 1; n <= all; n++) {
            check.due("event " + n, x.clear(0), n);
            if (n >= first && (n - first) % 5 == 0) {
                x.publish();
            }
        }
        return x;
    }

    private static void fourHundredAtAPacketsEnd() {
        check.sentence("there are at most 400 events ever");
        FeedDesk x = events(5, 399);
        check.due("event 400", x.clear(0), 400);
        check.due("packet 80", x.publish(), 80);
        check.due("event 401", x.clear(0), FULL);
        check.due("of another instrument", x.clear(1), FULL);
        check.due("a first order", x.add(1, 1, 0, 1, 1), FULL);
        check.due("a first halt", x.halt(1, true), FULL);
        check.due("no packet 81", x.publish(), 0);
        check.due("400 are there", x.at(NONE, 0), 400);
        check.due("none of instrument 1", x.at(NONE, 1), 0);
    }

    private static void fourHundredInAnOpenPacket() {
        check.sentence("there are at most 400 events ever (though the open packet has room)");
        FeedDesk x = events(3, 400);
        check.due("event 401", x.clear(0), FULL);
        check.due("packet 81", x.publish(), 81);
        check.due("it has two", x.packetByte(81, 4), 2);
        check.due("event 401 in a new packet", x.clear(0), FULL);
        check.due("no packet 82", x.publish(), 0);
    }

    private static void packetsFromOne() {
        check.sentence("Packets have numbers from 1");
        FeedDesk x = new FeedDesk();
        for (int packet = 1; packet <= 200; packet++) {
            x.clear(packet % 4);
            check.due("publish", x.publish(), packet);
        }
        check.due("the number's last byte", x.packetByte(200, 3), 200);
        check.due("the number's third byte", x.packetByte(200, 2), 0);
        check.due("no packet 0", x.packetByte(0, 0), NONE);
        check.due("no packet 201", x.packetByte(201, 0), NONE);
    }

    private static void emptyPacket() {
        check.sentence("0 when it has no events");
        FeedDesk x = new FeedDesk();
        check.due("at first", x.publish(), 0);
        check.due("again", x.publish(), 0);
        x.cancel(0, 1);
        x.add(0, 0, 0, 0, 0);
        check.due("refused events are none", x.publish(), 0);
        x.clear(0);
        check.due("one event", x.publish(), 1);
        check.due("just closed", x.publish(), 0);
        x.clear(0);
        check.due("no number was taken by the empty ones", x.publish(), 2);
    }

    private static void bytesOfOneEvent() {
        check.sentence("Byte i of a closed packet; NONE when there is none");
        FeedDesk x = new FeedDesk();
        check.due("no packet", x.packetByte(1, 0), NONE);
        x.add(0, 1, 0, 5, 77);
        check.due("an open packet", x.packetByte(1, 0), NONE);
        check.due("its count", x.packetByte(1, 4), NONE);
        x.publish();
        x.clear(0);
        check.due("ahead of the first byte", x.packetByte(1, -1), NONE);
        check.due("the first byte", x.packetByte(1, 0), 0);
        check.due("how many events", x.packetByte(1, 4), 1);
        check.due("the last byte", x.packetByte(1, 23), 77);
        check.due("behind the last byte", x.packetByte(1, 24), NONE);
        check.due("far behind it", x.packetByte(1, Integer.MAX_VALUE), NONE);
        check.due("far ahead", x.packetByte(1, Integer.MIN_VALUE), NONE);
        check.due("the open packet behind it", x.packetByte(2, 0), NONE);
    }

    private static void bytesOfFiveEvents() {
        check.sentence("one how many events, and for each one (five are the most)");
        FeedDesk x = new FeedDesk();
        for (int id = 1; id <= 5; id++) {
            x.add(id % 4, id, id % 2, 10 * id, 20 * id);
        }
        x.publish();
        for (int e = 0; e < 5; e++) {
            int id = e + 1;
            int[] due = {0, id % 4, 0, 0, 0, id == 5 ? 2 : 1, 0, 0, 0, id, id % 2, 0, 0, 0, 10 * id, 0, 0, 0, 20 * id};
            for (int i = 0; i < 19; i++) {
                check.due("event " + e + ", byte " + i, x.packetByte(1, 5 + 19 * e + i), due[i]);
            }
        }
        check.due("behind the last byte", x.packetByte(1, 100), NONE);
    }

    /** Four bytes of packet 1 from the i-th on. */
    private static void four(FeedDesk x, int i, int... due) {
        for (int k = 0; k < 4; k++) {
            check.due("byte " + (i + k), x.packetByte(1, i + k), due[k]);
        }
    }

    private static void highestByteFirst() {
        check.sentence("the highest byte first (of the least and the greatest numbers)");
        FeedDesk x = new FeedDesk();
        x.add(0, 1000000, 1, -1000000, 1000000);
        x.add(0, 1, 0, 1000000, 1);
        x.add(0, 65536, 0, -1, 256);
        x.publish();
        four(x, 0, 0, 0, 0, 1);
        four(x, 5 + 6, 0, 15, 66, 64);
        check.due("side", x.packetByte(1, 5 + 10), 1);
        four(x, 5 + 11, 255, 240, 189, 192);
        four(x, 5 + 15, 0, 15, 66, 64);
        four(x, 24 + 6, 0, 0, 0, 1);
        check.due("side", x.packetByte(1, 24 + 10), 0);
        four(x, 24 + 11, 0, 15, 66, 64);
        four(x, 24 + 15, 0, 0, 0, 1);
        four(x, 43 + 6, 0, 1, 0, 0);
        four(x, 43 + 11, 255, 255, 255, 255);
        four(x, 43 + 15, 0, 0, 1, 0);
    }

    private static void numbersOfTwoBytes() {
        check.sentence("four its number there (beyond one byte)");
        FeedDesk x = events(5, 260);
        check.due("event 255: third byte", x.packetByte(51, 5 + 19 * 4 + 4), 0);
        check.due("event 255: last byte", x.packetByte(51, 5 + 19 * 4 + 5), 255);
        check.due("event 256: third byte", x.packetByte(52, 5 + 4), 1);
        check.due("event 256: last byte", x.packetByte(52, 5 + 5), 0);
    }

    private static void whatAnEventDoesNotHave() {
        check.sentence("the id (0 for none); of halts 1 on, 0 off; what an event does not have is 0");
        FeedDesk x = new FeedDesk();
        x.add(2, 9, 1, -7, 9);
        x.publish();
        x.change(2, 9, 8);
        x.execute(2, 9, 7);
        x.halt(2, true);
        x.halt(2, false);
        x.cancel(2, 9);
        x.publish();
        x.clear(2);
        x.publish();
        int[][] due = {{1, 9, 8}, {2, 9, 7}, {4, 0, 1}, {4, 0, 0}, {3, 9, 0}, {5, 0, 0}};
        for (int e = 0; e < 6; e++) {
            int packet = e < 5 ? 2 : 3;
            int from = 5 + e % 5 * 19;
            int[] bytes = {due[e][0], 2, 0, 0, 0, e + 2, 0, 0, 0, due[e][1], 0, 0, 0, 0, 0, 0, 0, 0, due[e][2]};
            for (int i = 0; i < 19; i++) {
                check.due("event " + (e + 2) + ", byte " + i, x.packetByte(packet, from + i), bytes[i]);
            }
        }
    }

    private static void the512thCall() {
        check.sentence("An object is used for at most 512 calls after it has been made");
        FeedDesk x = events(5, 400);
        for (int packet = 1; packet <= 24; packet++) {
            check.due("line", x.line(0, packet, 0), 1);
        }
        for (int turn = 1; turn <= 5; turn++) {
            check.due("snapshotTurn", x.snapshotTurn(), turn);
        }
        check.due("call 510", x.hearSnapshot(5, 0, 0), 1);
        check.due("call 511", x.at(0, 0), 400);
        check.due("call 512", x.order(0, 0, 0, 0), NONE);
    }
}
