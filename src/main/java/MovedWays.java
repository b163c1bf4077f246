/**
 * A guest who writes to a house while moving from place to place. What each call answers is told by the document's
 * promises; README.md says how this file is laid out.
 */
public final class MovedWays {
    public static final int NONE = -1, UNKNOWN = -1000000001, OUTSIDE = -1000000002, NOT = -1000000003, FULL = -1000000004;

    private static final int GUEST = 0, HOUSE = 1, ENDS = 2;
    private static final int PLACES = 5, NAMES = 40, WORDS = 40, IMAGES = 2;
    private static final int ON_ROAD = 24, IN_HELD = 12, IN_CHALLENGES = 6, IN_BOOK = 20;

    private static final int WORD = 0, CHALLENGE = 1, ANSWER = 2, NAMED = 3, RETIRED = 4, HEARD = 5, KINDS = 6;
    private static final int[] SIZES = {5, 4, 4, 3, 2, 2};

    private static final int BAD_NAME = 1, BAD_PLACE = 2, TAKEN_BEFORE = 3, REASONS = 3;

    private static final int TOP_FORGED_NAME = 99, TOP_FORGED_NUMBER = 9999, TOP_FORGED_VALUE = 99;
    private static final int MOST_DRAWS = 20;
    private static final int WAIT = 3, MOST_TRIES = 2;

    /**
     * Of a run of 512 calls, each at most 20 draws, no draw sends more than two letters of one end in the mean: its
     * numbers stay well below this.
     */
    private static final int NUMBERS = 32768;

    private static final int LETTER_END = 0, LETTER_PLACE = 1, LETTER_NAME = 2, LETTER_NUMBER = 3, LETTER_KIND = 4,
            LETTER_VALUE = 5, LETTER_WIDTH = 6;
    private static final int ASKED_END = 0, ASKED_VALUE = 1, ASKED_PLACE = 2, ASKED_SINCE = 3, ASKED_TRIES = 4,
            ASKED_WIDTH = 5;
    private static final int HELD_PLACE = 0, HELD_KIND = 1, HELD_VALUE = 2, HELD_WIDTH = 3;
    private static final int PLACE_NAME = 0, PLACE_SURE = 1, PLACE_PROVED = 2, PLACE_GOT = 3, PLACE_PUT = 4,
            PLACE_WIDTH = 5, PLACE_HELD = 5;
    private static final int BOOK_END = 0, BOOK_WORD = 1, BOOK_IS = 2, BOOK_WIDTH = 3;

    private final Ways ways = new Ways();
    private final Table book = new Table(IN_BOOK, BOOK_WIDTH);
    private final Ways[] images = new Ways[IMAGES];

    public MovedWays() {
    }

    // ---- what is so

    public int told(int what) {
        switch (what) {
            case 0: return ways.moment;
            case 1: return ways.road.size();
            case 2: return ways.waiting.size();
            case 3: return ways.asked.size();
            case 4: return ways.guest.current;
            case 5: return ways.house.current;
            case 6: return ways.guest.earlier;
            case 7: return ways.house.earlier;
            case 8: return ways.given;
            case 9: return ways.live.size();
            case 10: return ways.spare.size();
            case 11: return ways.newest;
            case 12: return ways.droppedBy(BAD_NAME);
            case 13: return ways.droppedBy(BAD_PLACE);
            case 14: return ways.droppedBy(TAKEN_BEFORE);
            case 15: return ways.lost;
            case 16: return ways.isSettled() ? 1 : 0;
            case 17: return book.size();
            case 18: return firstWrong();
            case 19: return ways.seed;
            default: return OUTSIDE;
        }
    }

    public int end(int e, int what) {
        if (!isEnd(e)) {
            return UNKNOWN;
        }
        End of = ways.endOf(e);
        switch (what) {
            case 0: return of.said;
            case 1: return of.words.size();
            case 2: return of.words.inRow();
            case 3: return of.confirmed;
            case 4: return of.numbered;
            case 5: return of.challenged;
            default: return OUTSIDE;
        }
    }

    public int place(int p, int what) {
        if (!isPlace(p)) {
            return UNKNOWN;
        }
        if (what == PLACE_HELD) {
            return ways.waitingFor(p);
        }
        return cell(ways.places, p, what);
    }

    public int letter(int k, int what) {
        return cell(ways.road, k, what);
    }

    public int challenge(int k, int what) {
        return cell(ways.asked, k, what);
    }

    public int held(int k, int what) {
        return cell(ways.waiting, k, what);
    }

    public int name(int n) {
        if (n < 0 || n >= ways.given) {
            return UNKNOWN;
        }
        return (ways.live.has(n) ? 1 : 0) + (ways.spare.has(n) ? 2 : 0);
    }

    public int word(int e, int w) {
        if (!isEnd(e) || w < 0 || w >= ways.endOf(otherOf(e)).said) {
            return UNKNOWN;
        }
        return ways.endOf(e).words.has(w) ? 1 : 0;
    }

    // ---- the guest

    public int say() {
        return nextWord(GUEST);
    }

    public int open(int p) {
        if (!isPlace(p)) {
            return UNKNOWN;
        }
        if (ways.isOpen(p) || ways.spare.size() == 0) {
            return NOT;
        }
        return ways.opens(p);
    }

    public int go(int p) {
        if (!isPlace(p)) {
            return UNKNOWN;
        }
        if (!ways.isOpen(p) || ways.guest.current == p) {
            return NOT;
        }
        ways.goesTo(p);
        return ways.guest.earlier;
    }

    public int close(int p) {
        if (!isPlace(p)) {
            return UNKNOWN;
        }
        if (!ways.isOpen(p) || ways.guest.current == p) {
            return NOT;
        }
        return ways.closes(p);
    }

    // ---- the house, both

    public int speak() {
        return nextWord(HOUSE);
    }

    public int again(int e) {
        if (!isEnd(e)) {
            return UNKNOWN;
        }
        End of = ways.endOf(e);
        if (of.confirmed >= of.said) {
            return NOT;
        }
        ways.writes(e, of.current, WORD, of.confirmed);
        return of.confirmed;
    }

    // ---- the road

    public int arrive(int k) {
        if (!ways.road.hasRow(k)) {
            return UNKNOWN;
        }
        return ways.delivers(k);
    }

    public int lose(int k) {
        if (!ways.road.hasRow(k)) {
            return UNKNOWN;
        }
        ways.loses(k);
        return ways.road.size();
    }

    public int twice(int k) {
        if (!ways.road.hasRow(k)) {
            return UNKNOWN;
        }
        if (ways.road.isFull()) {
            return FULL;
        }
        ways.road.repeat(k);
        return ways.road.size();
    }

    public int forge(int p, int name, int number, int kind, int value) {
        if (!isPlace(p)) {
            return UNKNOWN;
        }
        if (name < NONE || name > TOP_FORGED_NAME || number < 0 || number > TOP_FORGED_NUMBER
                || kind < 0 || kind >= KINDS || value < 0 || value > TOP_FORGED_VALUE) {
            return OUTSIDE;
        }
        if (ways.road.isFull()) {
            return FULL;
        }
        ways.road.add(GUEST, p, name, number, kind, value);
        return ways.road.size();
    }

    public int tick() {
        ways.passes();
        return ways.asked.size();
    }

    public int drift(int n) {
        if (n < 1 || n > MOST_DRAWS) {
            return OUTSIDE;
        }
        for (int i = 0; i < n; i++) {
            drawOne();
        }
        return ways.road.size();
    }

    // ---- the book

    public int write(int e, int w, int is) {
        if (!isEnd(e)) {
            return UNKNOWN;
        }
        if (w < 0 || w >= WORDS || is < 0 || is > 1) {
            return OUTSIDE;
        }
        if (book.isFull()) {
            return FULL;
        }
        book.add(e, w, is, 0, 0, 0);
        return book.size();
    }

    public int tear() {
        int had = book.size();
        book.empty();
        return had;
    }

    // ---- images

    public int seed(int v) {
        if (v < 0) {
            return OUTSIDE;
        }
        int before = ways.seed;
        ways.seed = v;
        return before;
    }

    public int keep(int i) {
        if (i < 0 || i >= images.length) {
            return UNKNOWN;
        }
        Ways image = images[i];
        if (image == null) {
            image = new Ways();
            images[i] = image;
        }
        image.becomes(ways);
        return 1;
    }

    public int goBack(int i) {
        if (i < 0 || i >= images.length) {
            return UNKNOWN;
        }
        Ways image = images[i];
        if (image == null) {
            return NOT;
        }
        ways.becomes(image);
        return 1;
    }

    // ---- what the calls share

    private static boolean isEnd(int e) {
        return e >= 0 && e < ENDS;
    }

    private static boolean isPlace(int p) {
        return p >= 0 && p < PLACES;
    }

    private static int otherOf(int e) {
        return e == GUEST ? HOUSE : GUEST;
    }

    private static int cell(Table table, int k, int what) {
        if (!table.hasRow(k)) {
            return UNKNOWN;
        }
        if (!table.hasColumn(what)) {
            return OUTSIDE;
        }
        return table.at(k, what);
    }

    private int nextWord(int e) {
        End of = ways.endOf(e);
        if (of.said >= WORDS) {
            return FULL;
        }
        int w = of.said;
        of.said = w + 1;
        ways.writes(e, of.current, WORD, w);
        return w;
    }

    private int firstWrong() {
        for (int k = 0; k < book.size(); k++) {
            boolean has = ways.endOf(book.at(k, BOOK_END)).words.has(book.at(k, BOOK_WORD));
            if (has != (book.at(k, BOOK_IS) == 1)) {
                return k;
            }
        }
        return NONE;
    }

    /** The ways themselves, where a public call between would go more than eight deep (rule 11). */
    private void drawOne() {
        int drawn = ways.draw(10);
        switch (drawn) {
            case 4:
                if (ways.road.size() > 0) {
                    ways.loses(ways.draw(ways.road.size()));
                }
                break;
            case 5:
                say();
                break;
            case 6:
                speak();
                break;
            case 7:
                ways.passes();
                break;
            case 8:
                goOrOpen(ways.draw(PLACES));
                break;
            case 9:
                again(ways.draw(ENDS));
                break;
            default:
                if (ways.road.size() > 0) {
                    ways.delivers(ways.draw(ways.road.size()));
                }
                break;
        }
    }

    private void goOrOpen(int p) {
        if (ways.isOpen(p)) {
            go(p);
        } else {
            open(p);
        }
    }

    /**
     * Rows of numbers, no more of them than a limit; a table with fewer columns than six leaves the rest of a row 0.
     * What is out of its bounds is NONE and changes nothing.
     */
    private static final class Table {
        private static final int WIDTH = 6;

        private final int limit;
        private final int columns;
        private final int[] cells;
        private int count;

        Table(int limit, int columns) {
            this.limit = Math.max(1, limit);
            this.columns = Math.min(WIDTH, columns);
            cells = new int[this.limit * WIDTH];
        }

        int size() {
            return count;
        }

        boolean isFull() {
            return count >= limit;
        }

        boolean hasRow(int k) {
            return k >= 0 && k < count;
        }

        boolean hasColumn(int what) {
            return what >= 0 && what < columns;
        }

        int at(int k, int what) {
            int i = k * WIDTH + what;
            boolean isThere = k >= 0 && k < count && what >= 0 && what < columns && i < cells.length;
            return isThere ? cells[i] : NONE;
        }

        void put(int k, int what, int value) {
            int i = k * WIDTH + what;
            if (k >= 0 && k < count && what >= 0 && what < columns && i < cells.length) {
                cells[i] = value;
            }
        }

        void add(int a, int b, int c, int d, int e, int f) {
            int i = count * WIDTH;
            if (count < 0 || count >= limit || i + WIDTH > cells.length) {
                return;
            }
            cells[i] = a;
            cells[i + 1] = b;
            cells[i + 2] = c;
            cells[i + 3] = d;
            cells[i + 4] = e;
            cells[i + 5] = f;
            count++;
        }

        void repeat(int k) {
            if (k >= 0 && k < count && count < limit) {
                System.arraycopy(cells, k * WIDTH, cells, count * WIDTH, WIDTH);
                count++;
            }
        }

        void drop(int k) {
            if (k < 0 || k >= count) {
                return;
            }
            if (k < count - 1) {
                System.arraycopy(cells, (k + 1) * WIDTH, cells, k * WIDTH, (count - k - 1) * WIDTH);
            }
            count--;
        }

        void empty() {
            count = 0;
        }

        void becomes(Table other) {
            if (other.cells.length == cells.length) {
                System.arraycopy(other.cells, 0, cells, 0, cells.length);
                count = other.count;
            }
        }
    }

    /** A set of numbers from 0 up to a limit; a number beyond is never in it. */
    private static final class NumberSet {
        private final int limit;
        private final long[] bits;

        NumberSet(int limit) {
            this.limit = Math.max(1, limit);
            bits = new long[(this.limit + 63) / 64];
        }

        boolean has(int k) {
            int i = k >> 6;
            return k >= 0 && k < limit && i < bits.length && (bits[i] >>> (k & 63) & 1L) == 1L;
        }

        void add(int k) {
            int i = k >> 6;
            if (k >= 0 && k < limit && i < bits.length) {
                bits[i] |= 1L << (k & 63);
            }
        }

        void remove(int k) {
            int i = k >> 6;
            if (k >= 0 && k < limit && i < bits.length) {
                bits[i] &= ~(1L << (k & 63));
            }
        }

        int size() {
            int sum = 0;
            for (int i = 0; i < bits.length; i++) {
                sum += Long.bitCount(bits[i]);
            }
            return sum;
        }

        int least() {
            for (int k = 0; k < limit; k++) {
                if (has(k)) {
                    return k;
                }
            }
            return NONE;
        }

        int inRow() {
            int k = 0;
            while (k < limit && has(k)) {
                k++;
            }
            return k;
        }

        void becomes(NumberSet other) {
            if (other.bits.length == bits.length) {
                System.arraycopy(other.bits, 0, bits, 0, bits.length);
            }
        }
    }

    /** What both ends keep alike; EARLIER is FORMER of the guest, BACK of the house. */
    private static final class End {
        private final NumberSet words = new NumberSet(TOP_FORGED_VALUE + 1);
        private final NumberSet taken = new NumberSet(NUMBERS);
        private int said;
        private int confirmed;
        private int numbered;
        private int challenged;
        private int current;
        private int earlier = NONE;

        void confirm(int value) {
            confirmed = Math.max(confirmed, value);
        }

        void moveTo(int place) {
            earlier = current;
            current = place;
        }

        boolean hasAllOf(End other) {
            return words.inRow() >= other.said;
        }

        void becomes(End other) {
            words.becomes(other.words);
            taken.becomes(other.taken);
            said = other.said;
            confirmed = other.confirmed;
            numbered = other.numbered;
            challenged = other.challenged;
            current = other.current;
            earlier = other.earlier;
        }
    }

    /** All that an image keeps: sections 1 to 4 of the document, and the seed. */
    private static final class Ways {
        private final Table road = new Table(ON_ROAD, LETTER_WIDTH);
        private final Table waiting = new Table(IN_HELD, HELD_WIDTH);
        private final Table asked = new Table(IN_CHALLENGES, ASKED_WIDTH);
        private final Table places = new Table(PLACES, PLACE_WIDTH);
        private final NumberSet live = new NumberSet(NAMES);
        private final NumberSet spare = new NumberSet(NAMES);
        private final NumberSet everSpare = new NumberSet(NAMES);
        private final End guest = new End();
        private final End house = new End();
        private final int[] dropped = new int[REASONS + 1];
        private int moment;
        private int given = 2;
        private int newest = NONE;
        private int lost;
        private int seed;

        Ways() {
            for (int p = 0; p < PLACES; p++) {
                places.add(NONE, 0, 0, 0, 0, 0);
            }
            places.put(0, PLACE_NAME, 0);
            places.put(0, PLACE_SURE, 1);
            places.put(0, PLACE_PROVED, 1);
            live.add(0);
            live.add(1);
            spare.add(1);
            everSpare.add(1);
        }

        void becomes(Ways other) {
            road.becomes(other.road);
            waiting.becomes(other.waiting);
            asked.becomes(other.asked);
            places.becomes(other.places);
            live.becomes(other.live);
            spare.becomes(other.spare);
            everSpare.becomes(other.everSpare);
            guest.becomes(other.guest);
            house.becomes(other.house);
            for (int why = 0; why < dropped.length; why++) {
                dropped[why] = other.droppedBy(why);
            }
            moment = other.moment;
            given = other.given;
            newest = other.newest;
            lost = other.lost;
            seed = other.seed;
        }

        // ---- what is so

        End endOf(int e) {
            return e == GUEST ? guest : house;
        }

        boolean isOpen(int place) {
            return places.at(place, PLACE_NAME) != NONE;
        }

        boolean isProved(int place) {
            return places.at(place, PLACE_PROVED) == 1;
        }

        int droppedBy(int why) {
            return why >= 0 && why < dropped.length ? dropped[why] : 0;
        }

        int waitingFor(int place) {
            int sum = 0;
            for (int k = 0; k < waiting.size(); k++) {
                if (waiting.at(k, HELD_PLACE) == place) {
                    sum++;
                }
            }
            return sum;
        }

        boolean isSettled() {
            int place = guest.current;
            return place == house.current && isProved(place) && isOpen(place)
                    && road.size() == 0 && waiting.size() == 0
                    && guest.hasAllOf(house) && house.hasAllOf(guest);
        }

        int draw(int n) {
            seed = (int) ((seed * 1103515245L + 12345L) & 0x7fffffffL);
            return n > 0 ? seed / 65536 % n : 0;
        }

        // ---- letters onto the road and off it

        /** A letter goes: the guest's at once, the house's only if it may. */
        void writes(int e, int place, int kind, int value) {
            if (e == GUEST || mayGo(place, kind)) {
                sends(e, place, kind, value);
                return;
            }
            if (waiting.isFull()) {
                waiting.drop(0);
            }
            waiting.add(place, kind, value, 0, 0, 0);
        }

        private void sends(int e, int place, int kind, int value) {
            End of = endOf(e);
            int number = of.numbered;
            of.numbered = number + 1;
            if (e == HOUSE) {
                places.put(place, PLACE_PUT, places.at(place, PLACE_PUT) + sizeOf(kind));
            }
            if (road.isFull()) {
                lost++;
                return;
            }
            int name = e == GUEST ? places.at(place, PLACE_NAME) : NONE;
            road.add(e, place, name, number, kind, value);
        }

        void loses(int k) {
            if (road.hasRow(k)) {
                road.drop(k);
                lost++;
            }
        }

        int delivers(int k) {
            int e = road.at(k, LETTER_END);
            int place = road.at(k, LETTER_PLACE);
            int name = road.at(k, LETTER_NAME);
            int number = road.at(k, LETTER_NUMBER);
            int kind = road.at(k, LETTER_KIND);
            int value = road.at(k, LETTER_VALUE);
            road.drop(k);
            int why = e == GUEST ? houseTakes(place, name, number, kind, value) : guestTakes(place, number, kind, value);
            if (why > 0 && why < dropped.length) {
                dropped[why]++;
            }
            return why;
        }

        private static int sizeOf(int kind) {
            return kind >= 0 && kind < SIZES.length ? SIZES[kind] : 0;
        }

        // ---- what is held

        private boolean mayGo(int place, int kind) {
            return places.at(place, PLACE_PROVED) == 1
                    || places.at(place, PLACE_PUT) + sizeOf(kind) <= 3 * places.at(place, PLACE_GOT);
        }

        private void letsOut(int place) {
            int k = 0;
            for (int left = waiting.size(); left > 0; left--) {
                if (waiting.at(k, HELD_PLACE) != place) {
                    k++;
                    continue;
                }
                int kind = waiting.at(k, HELD_KIND);
                int value = waiting.at(k, HELD_VALUE);
                if (!mayGo(place, kind)) {
                    return;
                }
                waiting.drop(k);
                sends(HOUSE, place, kind, value);
            }
        }

        private void dropsHeldOf(int place) {
            for (int k = waiting.size() - 1; k >= 0; k--) {
                if (waiting.at(k, HELD_PLACE) == place) {
                    waiting.drop(k);
                }
            }
        }

        // ---- challenges

        /** Its value: the letter with it is the caller's to send, so that calls stay at most eight deep (rule 11). */
        private int challenges(int e, int place) {
            End of = endOf(e);
            int value = of.challenged;
            of.challenged = value + 1;
            if (asked.isFull()) {
                asked.drop(0);
            }
            asked.add(e, value, place, moment, 0, 0);
            return value;
        }

        /** Where the row has what this end has in this column; NONE. */
        private int askedWith(int e, int what, int value) {
            for (int k = 0; k < asked.size(); k++) {
                if (asked.at(k, ASKED_END) == e && asked.at(k, what) == value) {
                    return k;
                }
            }
            return NONE;
        }

        /** The place of the challenge that this answers, which goes from the row; NONE. */
        private int answered(int e, int value) {
            int k = askedWith(e, ASKED_VALUE, value);
            int place = asked.at(k, ASKED_PLACE);
            asked.drop(k);
            return place;
        }

        // ---- the house takes

        private int houseTakes(int place, int name, int number, int kind, int value) {
            if (!live.has(name)) {
                return BAD_NAME;
            }
            if (house.taken.has(number)) {
                return TAKEN_BEFORE;
            }
            house.taken.add(number);
            places.put(place, PLACE_GOT, places.at(place, PLACE_GOT) + sizeOf(kind));
            if (houseFollows(place, number, kind)) {
                houseDoubts(place);
            }
            houseActs(place, name, kind, value);
            if (kind == CHALLENGE) {
                houseDoubts(place);
            }
            letsOut(place);
            return 0;
        }

        /** Whether the house moved to this place. */
        private boolean houseFollows(int place, int number, int kind) {
            boolean isProbe = kind == CHALLENGE || kind == ANSWER || kind == NAMED;
            if (isProbe || number <= newest) {
                return false;
            }
            newest = number;
            if (place == house.current) {
                return false;
            }
            if (isProved(house.current)) {
                house.earlier = house.current;
            }
            house.current = place;
            return true;
        }

        private void houseDoubts(int place) {
            if (!isProved(place) && askedWith(HOUSE, ASKED_PLACE, place) == NONE) {
                writes(HOUSE, place, CHALLENGE, challenges(HOUSE, place));
            }
        }

        private void houseActs(int place, int name, int kind, int value) {
            switch (kind) {
                case WORD:
                    house.words.add(value);
                    writes(HOUSE, house.current, HEARD, house.words.inRow());
                    break;
                case CHALLENGE:
                    writes(HOUSE, place, ANSWER, value);
                    break;
                case ANSWER:
                    int proved = answered(HOUSE, value);
                    places.put(proved, PLACE_PROVED, 1);
                    letsOut(proved);
                    break;
                case RETIRED:
                    int fresh = value == name ? NONE : replaces(value);
                    if (fresh != NONE) {
                        writes(HOUSE, house.current, NAMED, fresh);
                    }
                    break;
                case HEARD:
                    house.confirm(value);
                    break;
                default:
                    break;
            }
        }

        /** The name that is given for this one, if this was live; NONE. */
        private int replaces(int name) {
            if (!live.has(name)) {
                return NONE;
            }
            live.remove(name);
            if (given >= NAMES) {
                return NONE;
            }
            int fresh = given;
            given = fresh + 1;
            live.add(fresh);
            return fresh;
        }

        // ---- the guest takes

        private int guestTakes(int place, int number, int kind, int value) {
            if (!isOpen(place)) {
                return BAD_PLACE;
            }
            if (guest.taken.has(number)) {
                return TAKEN_BEFORE;
            }
            guest.taken.add(number);
            guestActs(place, kind, value);
            return 0;
        }

        private void guestActs(int place, int kind, int value) {
            switch (kind) {
                case WORD:
                    guest.words.add(value);
                    sends(GUEST, guest.current, HEARD, guest.words.inRow());
                    break;
                case CHALLENGE:
                    sends(GUEST, place, ANSWER, value);
                    break;
                case ANSWER:
                    places.put(answered(GUEST, value), PLACE_SURE, 1);
                    break;
                case NAMED:
                    if (!everSpare.has(value)) {
                        everSpare.add(value);
                        spare.add(value);
                    }
                    break;
                case HEARD:
                    guest.confirm(value);
                    break;
                default:
                    break;
            }
        }

        // ---- the guest moves

        int opens(int place) {
            int name = spare.least();
            spare.remove(name);
            places.put(place, PLACE_NAME, name);
            places.put(place, PLACE_SURE, 0);
            sends(GUEST, place, CHALLENGE, challenges(GUEST, place));
            return name;
        }

        int closes(int place) {
            int name = places.at(place, PLACE_NAME);
            places.put(place, PLACE_NAME, NONE);
            sends(GUEST, guest.current, RETIRED, name);
            return name;
        }

        void goesTo(int place) {
            guest.moveTo(place);
            sends(GUEST, place, HEARD, guest.words.inRow());
        }

        // ---- a tick

        void passes() {
            moment++;
            int k = 0;
            for (int left = asked.size(); left > 0; left--) {
                if (moment - asked.at(k, ASKED_SINCE) < WAIT) {
                    k++;
                } else if (asked.at(k, ASKED_TRIES) < MOST_TRIES) {
                    asksAgain(k);
                    k++;
                } else {
                    givesUp(k);
                }
            }
        }

        private void asksAgain(int k) {
            asked.put(k, ASKED_TRIES, asked.at(k, ASKED_TRIES) + 1);
            asked.put(k, ASKED_SINCE, moment);
            writes(asked.at(k, ASKED_END), asked.at(k, ASKED_PLACE), CHALLENGE, asked.at(k, ASKED_VALUE));
        }

        private void givesUp(int k) {
            int e = asked.at(k, ASKED_END);
            int place = asked.at(k, ASKED_PLACE);
            asked.drop(k);
            if (e == HOUSE && !isProved(place)) {
                forgets(place);
            }
            if (e == GUEST && isOpen(place) && places.at(place, PLACE_SURE) == 0) {
                leaves(place);
            }
        }

        private void forgets(int place) {
            places.put(place, PLACE_GOT, 0);
            places.put(place, PLACE_PUT, 0);
            dropsHeldOf(place);
            if (house.current == place && house.earlier != NONE) {
                house.current = house.earlier;
            }
        }

        private void leaves(int place) {
            if (guest.current == place && isOpen(guest.earlier)) {
                goesTo(guest.earlier);
            }
            if (guest.current != place) {
                closes(place);
            }
        }
    }
}
