import java.util.Arrays;

/** A feed of order books over two lines, with receivers that mend what they miss, and slow readers. */
public final class FeedDesk {
    public static final int NONE = -1, WRONG = -2, REFUSED = -3, FULL = -4;

    private static final int INSTRUMENTS = 4, RECEIVERS = 2, LINES = 2, SIDES = 2;
    private static final int BIGGEST = 1000000;
    private static final int MOST_ORDERS = 24, MOST_EVENTS = 400, MOST_HELD = 30;
    private static final int PACKET_EVENTS = 5, REPLAY_EVENTS = 40;
    private static final int SNAPSHOTS = 8, PIECE_ORDERS = 3;

    private static final int ADD = 0, CHANGE = 1, EXECUTE = 2, CANCEL = 3, HALT = 4, CLEAR = 5;
    private static final int BUY = 0;
    private static final int PRICE = 0, SUM = 1, LEVEL_VALUES = 3;
    private static final int VIEW_LEVELS = 3, SIDE_CELLS = VIEW_LEVELS * LEVEL_VALUES;
    private static final int HALT_CELL = SIDES * SIDE_CELLS, VIEW_CELLS = HALT_CELL + 1;

    // Plain NONE and WRONG could be prices, so where a price may be answered they lie beyond all prices.
    private static final int NO_LEVEL = NONE * 2000000, WRONG_LEVEL = WRONG * 2000000;

    private static final int HEAD_BYTES = 5, EVENT_BYTES = 19;

    private final Publisher publisher;
    private final Receiver[] receivers = new Receiver[RECEIVERS];
    private final Reader[] readers = new Reader[RECEIVERS];

    public FeedDesk() {
        Publisher feed = new Publisher();
        publisher = feed;
        for (int i = 0; i < RECEIVERS; i++) {
            Reader slow = new Reader();
            readers[i] = slow;
            receivers[i] = new Receiver(feed, slow);
        }
    }

    public int add(int instrument, int id, int side, int price, int size) {
        if (!isInstrument(instrument) || !isCount(id) || !isSide(side) || !isCount(size)) {
            return WRONG;
        }
        if (price < -BIGGEST || price > BIGGEST) {
            return WRONG;
        }
        return publisher.offer(ADD, instrument, id, side, price, size);
    }

    public int change(int instrument, int id, int size) {
        if (!isInstrument(instrument) || !isCount(id) || !isCount(size)) {
            return WRONG;
        }
        return publisher.offer(CHANGE, instrument, id, 0, 0, size);
    }

    public int execute(int instrument, int id, int size) {
        if (!isInstrument(instrument) || !isCount(id) || !isCount(size)) {
            return WRONG;
        }
        return publisher.offer(EXECUTE, instrument, id, 0, 0, size);
    }

    public int cancel(int instrument, int id) {
        if (!isInstrument(instrument) || !isCount(id)) {
            return WRONG;
        }
        return publisher.offer(CANCEL, instrument, id, 0, 0, 0);
    }

    public int halt(int instrument, boolean on) {
        if (!isInstrument(instrument)) {
            return WRONG;
        }
        return publisher.offer(HALT, instrument, 0, 0, 0, on ? 1 : 0);
    }

    public int clear(int instrument) {
        if (!isInstrument(instrument)) {
            return WRONG;
        }
        return publisher.offer(CLEAR, instrument, 0, 0, 0, 0);
    }

    public int publish() {
        return publisher.closePacket();
    }

    public int packetByte(int packet, int i) {
        return publisher.byteOfPacket(packet, i);
    }

    public int line(int which, int packet, int receiver) {
        if (which < 0 || which >= LINES || !publisher.isClosed(packet) || !isReceiver(receiver)) {
            return WRONG;
        }
        return receivers[receiver].hear(packet);
    }

    public int askReplay(int receiver) {
        return isReceiver(receiver) ? receivers[receiver].ask() : WRONG;
    }

    public int serveReplay(int receiver) {
        return isReceiver(receiver) ? receivers[receiver].takeAnswer() : WRONG;
    }

    public int snapshotTurn() {
        return publisher.makeSnapshot();
    }

    public int hearSnapshot(int snapshot, int receiver, int skip) {
        if (!publisher.canHear(snapshot) || !isReceiver(receiver)) {
            return WRONG;
        }
        Snapshot heard = publisher.snapshot(snapshot);
        if (heard.hasPiece(skip)) {
            return 0;
        }
        return receivers[receiver].tracks[heard.instrument].restore(heard);
    }

    public int sound(int receiver, int instrument) {
        if (!isReceiver(receiver) || !isInstrument(instrument)) {
            return WRONG;
        }
        return receivers[receiver].isSound(instrument) ? 1 : 0;
    }

    public int at(int receiver, int instrument) {
        return hasBook(receiver, instrument) ? book(receiver, instrument).applied : WRONG;
    }

    public int receiver(int receiver, int what) {
        if (!isReceiver(receiver)) {
            return WRONG;
        }
        switch (what) {
            case 0: return receivers[receiver].next;
            case 1: return receivers[receiver].highest;
            case 2: return receivers[receiver].countKept();
            case 3: return receivers[receiver].countHeld();
            default: return WRONG;
        }
    }

    public int best(int receiver, int instrument, int side, int level, int what) {
        if (!hasBook(receiver, instrument) || !isSide(side) || level < 0 || !isLevelValue(what)) {
            return WRONG_LEVEL;
        }
        return book(receiver, instrument).levelValue(side, level, what);
    }

    public int order(int receiver, int instrument, int side, int i) {
        if (!hasBook(receiver, instrument) || !isSide(side) || i < 0 || i >= MOST_ORDERS) {
            return WRONG;
        }
        return book(receiver, instrument).idAt(side, i);
    }

    public int halted(int receiver, int instrument) {
        return hasBook(receiver, instrument) ? book(receiver, instrument).haltValue() : WRONG;
    }

    public int dirty(int reader) {
        return isReceiver(reader) ? readers[reader].dirtyCount : WRONG;
    }

    public int read(int reader) {
        if (!isReceiver(reader)) {
            return WRONG;
        }
        int instrument = readers[reader].takeFirst();
        if (instrument != NONE) {
            book(reader, instrument).refresh(readers[reader].fixed);
        }
        return instrument;
    }

    public int view(int reader, int side, int level, int what) {
        boolean asksHalt = side == SIDES && level == 0 && what == 0;
        boolean asksLevel = isSide(side) && level >= 0 && level < VIEW_LEVELS && isLevelValue(what);
        if (!isReceiver(reader) || !(asksHalt || asksLevel)) {
            return WRONG_LEVEL;
        }
        return readers[reader].fixed[side * SIDE_CELLS + level * LEVEL_VALUES + what];
    }

    private static boolean isInstrument(int instrument) {
        return instrument >= 0 && instrument < INSTRUMENTS;
    }

    private static boolean isReceiver(int receiver) {
        return receiver >= 0 && receiver < RECEIVERS;
    }

    private static boolean isSide(int side) {
        return side >= 0 && side < SIDES;
    }

    /** Ids and sizes have the same bounds. */
    private static boolean isCount(int number) {
        return number >= 1 && number <= BIGGEST;
    }

    private static boolean isLevelValue(int what) {
        return what >= 0 && what < LEVEL_VALUES;
    }

    private static boolean hasBook(int receiver, int instrument) {
        return (receiver == NONE || isReceiver(receiver)) && isInstrument(instrument);
    }

    private static int[] emptyView() {
        int[] cells = new int[VIEW_CELLS];
        Arrays.fill(cells, NO_LEVEL);
        return cells;
    }

    private Book book(int receiver, int instrument) {
        return receiver == NONE ? publisher.books[instrument] : receivers[receiver].tracks[instrument].book;
    }

    /** What happened to one book; it is never changed, so the publisher and the receivers share it. */
    private static final class Event {
        final int sort;
        final int instrument;
        final int number;
        final int id;
        final int side;
        final int price;
        final int size;

        Event(int sort, int instrument, int number, int id, int side, int price, int size) {
            this.sort = sort;
            this.instrument = instrument;
            this.number = number;
            this.id = id;
            this.side = side;
            this.price = price;
            this.size = size;
        }

        int byteAt(int i) {
            if (i == 0) {
                return sort;
            }
            if (i == 1) {
                return instrument;
            }
            if (i < 6) {
                return byteOf(number, i - 2);
            }
            if (i < 10) {
                return byteOf(id, i - 6);
            }
            if (i == 10) {
                return side;
            }
            return i < 15 ? byteOf(price, i - 11) : byteOf(size, i - 15);
        }

        static int byteOf(int number, int i) {
            return (number >>> (24 - 8 * i)) & 255;
        }
    }

    /** The orders of one instrument after so many events. */
    private static final class Book {
        // All buys stand ahead of all sells, each side in book order.
        private final int[] ids = new int[MOST_ORDERS];
        private final int[] prices = new int[MOST_ORDERS];
        private final int[] sizes = new int[MOST_ORDERS];
        private int buys = 0;
        private int total = 0;
        private boolean isHalted = false;
        private int applied = 0;

        boolean allows(int sort, int id, int size) {
            int place = placeOf(id);
            switch (sort) {
                case ADD: return place == NONE && total < MOST_ORDERS;
                case CHANGE: return place != NONE && size < sizes[place];
                case EXECUTE: return place != NONE && !isHalted && size <= sizes[place];
                case CANCEL: return place != NONE;
                case HALT: return haltValue() != size;
                default: return true;
            }
        }

        void apply(Event event) {
            applied++;
            switch (event.sort) {
                case ADD:
                    insert(event);
                    break;
                case HALT:
                    isHalted = event.size == 1;
                    break;
                case CLEAR:
                    buys = 0;
                    total = 0;
                    break;
                default:
                    shrink(placeOf(event.id), event);
            }
        }

        private int placeOf(int id) {
            for (int i = 0; i < total; i++) {
                if (ids[i] == id) {
                    return i;
                }
            }
            return NONE;
        }

        private void insert(Event event) {
            if (total >= MOST_ORDERS) {
                return;
            }
            boolean isBuy = event.side == BUY;
            int place = startOf(event.side);
            int end = endOf(event.side);
            // It goes behind those of its own price: they came first.
            while (place < end && (isBuy ? prices[place] >= event.price : prices[place] <= event.price)) {
                place++;
            }
            System.arraycopy(ids, place, ids, place + 1, total - place);
            System.arraycopy(prices, place, prices, place + 1, total - place);
            System.arraycopy(sizes, place, sizes, place + 1, total - place);
            ids[place] = event.id;
            prices[place] = event.price;
            sizes[place] = event.size;
            total++;
            if (isBuy) {
                buys++;
            }
        }

        private void shrink(int place, Event event) {
            if (place == NONE) {
                return;
            }
            int left = sizeLeft(sizes[place], event);
            if (left > 0) {
                sizes[place] = left;
                return;
            }
            total--;
            if (place < buys) {
                buys--;
            }
            System.arraycopy(ids, place + 1, ids, place, total - place);
            System.arraycopy(prices, place + 1, prices, place, total - place);
            System.arraycopy(sizes, place + 1, sizes, place, total - place);
        }

        private static int sizeLeft(int size, Event event) {
            switch (event.sort) {
                case CHANGE: return event.size;
                case EXECUTE: return size - event.size;
                default: return 0;
            }
        }

        void become(Book other) {
            System.arraycopy(other.ids, 0, ids, 0, other.total);
            System.arraycopy(other.prices, 0, prices, 0, other.total);
            System.arraycopy(other.sizes, 0, sizes, 0, other.total);
            buys = other.buys;
            total = other.total;
            isHalted = other.isHalted;
            applied = other.applied;
        }

        private int startOf(int side) {
            return side == BUY ? 0 : buys;
        }

        private int endOf(int side) {
            return side == BUY ? buys : total;
        }

        int haltValue() {
            return isHalted ? 1 : 0;
        }

        int idAt(int side, int i) {
            int place = startOf(side) + i;
            return place < endOf(side) ? ids[place] : NONE;
        }

        int levelValue(int side, int level, int what) {
            int start = startOf(side);
            int end = endOf(side);
            int current = -1;
            int price = 0;
            int sum = 0;
            int count = 0;
            for (int i = start; i < end && current <= level; i++) {
                if (i == start || prices[i] != prices[i - 1]) {
                    current++;
                }
                if (current == level) {
                    price = prices[i];
                    sum += sizes[i];
                    count++;
                }
            }
            if (count == 0) {
                return NO_LEVEL;
            }
            return what == PRICE ? price : what == SUM ? sum : count;
        }

        /** Brings the cells of a view up to date, and tells whether that changed one of them. */
        boolean refresh(int[] cells) {
            boolean changed = false;
            for (int cell = 0; cell < VIEW_CELLS && cell < cells.length; cell++) {
                int value = cell == HALT_CELL ? haltValue() : levelValue(cell / SIDE_CELLS,
                        cell % SIDE_CELLS / LEVEL_VALUES, cell % LEVEL_VALUES);
                changed = changed || cells[cell] != value;
                cells[cell] = value;
            }
            return changed;
        }
    }

    /** A book as it was published at one time. */
    private static final class Snapshot {
        private final Book book = new Book();
        private int instrument = 0;
        private int covers = 0;

        void fix(int newInstrument, Book source, int closedPackets) {
            instrument = newInstrument;
            book.become(source);
            covers = closedPackets;
        }

        boolean hasPiece(int piece) {
            int full = (book.total + PIECE_ORDERS - 1) / PIECE_ORDERS;
            return piece >= 1 && piece <= Math.max(1, full);
        }
    }

    /** The true books, and all that was ever sent of them. */
    private static final class Publisher {
        private final Book[] books = new Book[INSTRUMENTS];
        private final Event[] events = new Event[MOST_EVENTS];
        private int eventCount = 0;
        // Of each closed packet, how many events there are up to its end.
        private final int[] ends = new int[MOST_EVENTS + 1];
        private int closed = 0;
        private final Snapshot[] snapshots = new Snapshot[SNAPSHOTS];
        private int snapshotCount = 0;

        Publisher() {
            for (int i = 0; i < INSTRUMENTS; i++) {
                books[i] = new Book();
            }
            for (int i = 0; i < SNAPSHOTS; i++) {
                snapshots[i] = new Snapshot();
            }
        }

        int offer(int sort, int instrument, int id, int side, int price, int size) {
            Book book = books[instrument];
            if (!book.allows(sort, id, size)) {
                return REFUSED;
            }
            if (eventCount - ends[closed] >= PACKET_EVENTS || eventCount >= MOST_EVENTS) {
                return FULL;
            }
            Event event = new Event(sort, instrument, book.applied + 1, id, side, price, size);
            events[eventCount] = event;
            eventCount++;
            book.apply(event);
            return event.number;
        }

        int closePacket() {
            if (eventCount == ends[closed]) {
                return 0;
            }
            closed++;
            ends[closed] = eventCount;
            return closed;
        }

        boolean isClosed(int packet) {
            return packet >= 1 && packet <= closed;
        }

        int startOf(int packet) {
            return ends[packet - 1];
        }

        int endOf(int packet) {
            return ends[packet];
        }

        boolean canReplayFrom(int packet) {
            return startOf(packet) >= endOf(closed) - REPLAY_EVENTS;
        }

        int byteOfPacket(int packet, int i) {
            if (!isClosed(packet) || i < 0) {
                return NONE;
            }
            if (i < HEAD_BYTES - 1) {
                return Event.byteOf(packet, i);
            }
            if (i < HEAD_BYTES) {
                return endOf(packet) - startOf(packet);
            }
            int place = startOf(packet) + (i - HEAD_BYTES) / EVENT_BYTES;
            if (place >= endOf(packet) || events[place] == null) {
                return NONE;
            }
            return events[place].byteAt((i - HEAD_BYTES) % EVENT_BYTES);
        }

        int makeSnapshot() {
            int instrument = snapshotCount & (INSTRUMENTS - 1);
            snapshotCount++;
            snapshot(snapshotCount).fix(instrument, books[instrument], closed);
            return snapshotCount;
        }

        boolean canHear(int number) {
            return number >= 1 && number <= snapshotCount && number > snapshotCount - SNAPSHOTS;
        }

        Snapshot snapshot(int number) {
            return snapshots[number & (SNAPSHOTS - 1)];
        }
    }

    /** One instrument as one receiver has it. */
    private static final class Track {
        private final int instrument;
        private final Reader reader;
        private final Book book = new Book();
        private final int[] shown = emptyView();
        private final Event[] held = new Event[MOST_HELD];
        private int heldCount = 0;
        // The packet that a snapshot must cover; 0 when none is needed.
        private int needed = 0;

        Track(int instrument, Reader reader) {
            this.instrument = instrument;
            this.reader = reader;
            shown[HALT_CELL] = 0;
        }

        void take(Event event) {
            int due = book.applied + 1;
            if (event.number == due) {
                book.apply(event);
                follow();
            } else if (event.number > due) {
                hold(event);
            }
        }

        int restore(Snapshot snapshot) {
            boolean isNewer = snapshot.book.applied > book.applied;
            boolean isCover = needed > 0 && snapshot.covers >= needed;
            if (isCover) {
                needed = 0;
            }
            if (isNewer) {
                book.become(snapshot.book);
                forgetOldHeld();
                follow();
            }
            return isNewer ? 1 : isCover ? 2 : 0;
        }

        /** Tells the reader what the book has become, and goes on with the held events that are due. */
        private void follow() {
            for (int i = 0; i <= MOST_HELD; i++) {
                // Ahead of each held event: the reader must not miss a change that the next one takes back.
                if (book.refresh(shown)) {
                    reader.mark(instrument);
                }
                Event event = takeHeld(book.applied + 1);
                if (event == null) {
                    return;
                }
                book.apply(event);
            }
        }

        private void hold(Event event) {
            for (int i = 0; i < heldCount; i++) {
                if (held[i] != null && held[i].number == event.number) {
                    return;
                }
            }
            if (heldCount < MOST_HELD) {
                held[heldCount] = event;
                heldCount++;
            }
        }

        private Event takeHeld(int number) {
            for (int i = 0; i < heldCount; i++) {
                Event event = held[i];
                if (event != null && event.number == number) {
                    heldCount--;
                    held[i] = held[heldCount];
                    return event;
                }
            }
            return null;
        }

        private void forgetOldHeld() {
            int left = 0;
            for (int i = 0; i < heldCount; i++) {
                Event event = held[i];
                if (event != null && event.number > book.applied) {
                    held[left] = event;
                    left++;
                }
            }
            heldCount = left;
        }
    }

    /** Follows the packets of the publisher, whichever way they come. */
    private static final class Receiver {
        private static final int AHEAD = 6, SLOT_MASK = 7;

        private final Publisher publisher;
        private final Track[] tracks = new Track[INSTRUMENTS];
        private int next = 1;
        private int highest = 0;
        // Kept packets are less than eight apart, so the low three bits of their numbers tell them apart.
        private final boolean[] kept = new boolean[SLOT_MASK + 1];
        // The last packet of the gap that it asked for: its first is NEXT; all is passed when this is below NEXT.
        private int askedLast = 0;

        Receiver(Publisher publisher, Reader reader) {
            this.publisher = publisher;
            for (int i = 0; i < INSTRUMENTS; i++) {
                tracks[i] = new Track(i, reader);
            }
        }

        int hear(int packet) {
            highest = Math.max(highest, packet);
            if (packet < next) {
                return 0;
            }
            if (packet > next + AHEAD) {
                return 3;
            }
            if (packet > next) {
                kept[packet & SLOT_MASK] = true;
                return 2;
            }
            passThrough(packet);
            return 1;
        }

        int ask() {
            askedLast = lastOfGap();
            return Math.max(0, askedLast - next + 1);
        }

        int takeAnswer() {
            int last = askedLast;
            askedLast = 0;
            if (last < next) {
                return 0;
            }
            boolean isOld = !publisher.canReplayFrom(next);
            if (isOld) {
                giveUp(last);
            }
            passThrough(last);
            return isOld ? 2 : 1;
        }

        private int lastOfGap() {
            for (int packet = next + 1; packet <= next + AHEAD; packet++) {
                if (kept[packet & SLOT_MASK]) {
                    return packet - 1;
                }
            }
            return highest;
        }

        /** Passes all packets up to the last one, and those behind it that are kept. */
        private void passThrough(int last) {
            while (next <= publisher.closed && (next <= last || kept[next & SLOT_MASK])) {
                kept[next & SLOT_MASK] = false;
                int end = publisher.endOf(next);
                for (int i = publisher.startOf(next); i < end; i++) {
                    Event event = publisher.events[i];
                    if (event != null) {
                        tracks[event.instrument].take(event);
                    }
                }
                next++;
            }
        }

        private void giveUp(int last) {
            // Packets of the gap may have been kept since it was asked for: they fall behind NEXT with it.
            for (int packet = next; packet <= last && packet <= next + AHEAD; packet++) {
                kept[packet & SLOT_MASK] = false;
            }
            for (int i = 0; i < INSTRUMENTS; i++) {
                tracks[i].needed = last;
            }
            next = last + 1;
        }

        boolean isSound(int instrument) {
            return tracks[instrument].needed == 0 && highest < next;
        }

        int countKept() {
            int count = 0;
            for (int i = 0; i <= SLOT_MASK; i++) {
                count += kept[i] ? 1 : 0;
            }
            return count;
        }

        int countHeld() {
            int count = 0;
            for (int i = 0; i < INSTRUMENTS; i++) {
                count += tracks[i].heldCount;
            }
            return count;
        }
    }

    /** Reads when it likes: which instruments changed since, and the view that it took last. */
    private static final class Reader {
        private final int[] row = new int[INSTRUMENTS];
        private int dirtyCount = 0;
        private final int[] fixed = emptyView();

        void mark(int instrument) {
            for (int i = 0; i < dirtyCount; i++) {
                if (row[i] == instrument) {
                    return;
                }
            }
            if (dirtyCount < INSTRUMENTS) {
                row[dirtyCount] = instrument;
                dirtyCount++;
            }
        }

        int takeFirst() {
            if (dirtyCount == 0) {
                return NONE;
            }
            int first = row[0];
            dirtyCount--;
            System.arraycopy(row, 1, row, 0, dirtyCount);
            return first;
        }
    }
}
