/** Families that own jokes by halves, a table at which they tell them, and what can be thought of it. */
public final class HalfAJoke {
    public static final int NONE = -1;

    private static final int FAMILIES = 6;
    private static final int QUARTERS = 4;
    private static final int HALVES = 16;
    private static final int JOKES = 10;
    private static final int WITS = 100;
    private static final int FRONT_SIDE = 0;
    private static final int END_SIDE = 1;
    private static final int PAIRS = HALVES * HALVES;
    private static final int GUESTS = 8;
    private static final int SEATS = 8;
    private static final int LEAST_SEATS = 3;
    private static final int MOST_SPOIL = 1000;
    private static final int EVENINGS_AT_ONCE = 50;
    private static final int LAST_NIGHT = 9999;
    private static final int TAPE_LENGTH = 400;

    private final House house;
    private final Past past;
    private final Reader reader;
    private final Evening evening;
    private final int[] row;
    // Made when first asked for, so that an object that never needs them stays small.
    private House kept;
    private Seating bestSeating;
    private Fit bestFit;
    private Worths worths;

    public HalfAJoke() {
        house = new House();
        past = new Past();
        reader = new Reader();
        evening = new Evening(house);
        row = new int[SEATS];
    }

    public int state(int v) {
        int before = house.draws;
        house.draws = v;
        past.forget();
        return before;
    }

    public int half(int end, int joke, int wit, int family) {
        boolean possible = isBelow(end, 2) && isBelow(joke, JOKES) && isBelow(wit, WITS) && isBelow(family, FAMILIES);
        if (!possible || house.halves.count >= HALVES) {
            return NONE;
        }
        past.forget();
        return house.halves.add(end, joke, wit, family);
    }

    public boolean give(int half, int quarters, int from, int to) {
        boolean possible = house.halves.has(half) && isBelow(from, FAMILIES) && isBelow(to, FAMILIES) && from != to;
        if (!possible || quarters < 1 || quarters > house.halves.quartersOf(half, from)) {
            return false;
        }
        house.halves.move(half, quarters, from, to);
        past.forget();
        return true;
    }

    public int heirs(int family, int set) {
        boolean possible = isBelow(family, FAMILIES) && set > 0 && set < 1 << FAMILIES;
        if (!possible || isIn(family, set)) {
            return NONE;
        }
        int gone = 0;
        for (int half = 0; half < house.halves.count; half++) {
            gone += house.halves.inherit(half, family, set);
        }
        past.forget();
        return gone;
    }

    public boolean feud(int a, int b, boolean is) {
        if (!isBelow(a, FAMILIES) || !isBelow(b, FAMILIES) || a == b) {
            return false;
        }
        house.quarrel(a, b, is);
        past.forget();
        return true;
    }

    public int guest(int family) {
        if (!isBelow(family, FAMILIES) || house.table.guests >= GUESTS) {
            return NONE;
        }
        past.forget();
        return house.table.add(family);
    }

    public boolean seat(int guest, int seat) {
        if (!house.table.canSit(guest, seat)) {
            return false;
        }
        house.table.sit(guest, seat);
        past.forget();
        return true;
    }

    public boolean set(int what, int v) {
        if (what == 0 && v >= LEAST_SEATS && v <= SEATS) {
            house.table.layFor(v);
        } else if (what == 1 && v >= 1 && v <= QUARTERS) {
            house.need = v;
        } else if (what == 2 && v >= 0 && v <= MOST_SPOIL) {
            house.spoil = v;
        } else {
            return false;
        }
        past.forget();
        return true;
    }

    public int feed(int a, int b, int c, int d, int e) {
        if (!reader.hasRoom(20)) {
            return NONE;
        }
        reader.put(a);
        reader.put(b);
        reader.put(c);
        reader.put(d);
        reader.put(e);
        return reader.length;
    }

    public boolean end(int n) {
        if (n < 0 || n > reader.length) {
            return false;
        }
        reader.length = n;
        return true;
    }

    public int text() {
        boolean right = reader.readLaw();
        reader.length = 0;
        if (!right) {
            return NONE;
        }
        house.law.copyFrom(reader.draft);
        return house.law.lines;
    }

    public int fault(int what) {
        if (what == 0) {
            return reader.fault;
        }
        return what == 1 ? reader.faultPlace : NONE;
    }

    public int evenings(int n) {
        if (n < 1 || n > EVENINGS_AT_ONCE || house.book.night + n > LAST_NIGHT) {
            return NONE;
        }
        int sum = 0;
        for (int i = 0; i < n; i++) {
            sum += spendEvening();
        }
        return sum;
    }

    public int of(int half, int what) {
        if (!house.halves.has(half)) {
            return NONE;
        }
        switch (what) {
            case 0:
                return house.halves.side[half];
            case 1:
                return house.halves.joke[half];
            case 2:
                return house.halves.wit[half];
            default:
                return what >= 10 && what < 10 + FAMILIES ? house.halves.quartersOf(half, what - 10) : NONE;
        }
    }

    public int who(int guest, int what) {
        boolean possible = isBelow(guest, house.table.guests);
        if (!possible || what < 0 || what > 1) {
            return NONE - 1;
        }
        return what == 0 ? house.table.family[guest] : house.table.place[guest];
    }

    public int laugh(int front, int end) {
        return arePair(front, end) ? house.laughOf(front, end, 0) : NONE;
    }

    public int told(int front, int end) {
        return arePair(front, end) ? house.book.told[pairOf(front, end)] : NONE;
    }

    public int telling(int seat, int what) {
        if (!isBelow(seat, house.table.seats)) {
            return NONE;
        }
        evening.begin();
        if (!evening.findBetween(house.table.sitter[seat], house.table.sitter[house.table.beside(seat)])) {
            return NONE;
        }
        switch (what) {
            case 0:
                return evening.front;
            case 1:
                return evening.end;
            case 2:
                return evening.opener;
            case 3:
                return evening.laugh;
            default:
                return NONE;
        }
    }

    public int book(int i, int what) {
        boolean possible = isBelow(i, house.book.lines) && isBelow(what, Book.WIDTH);
        return possible ? house.book.rows[i * Book.WIDTH + what] : NONE;
    }

    public int fame(int family) {
        return isBelow(family, FAMILIES) ? house.book.fame[family] : NONE;
    }

    public int merry() {
        evening.begin();
        return evening.merryOf(house.table.sitter, house.table.seats);
    }

    public int fit(int what) {
        if (what != 0 && !house.halves.has(what - 10)) {
            return NONE;
        }
        if (bestFit == null) {
            bestFit = new Fit();
        }
        if (!bestFit.solve(house)) {
            return NONE;
        }
        return what == 0 ? bestFit.sum : bestFit.partner[what - 10];
    }

    public int seating(int what) {
        int guests = house.table.guests;
        boolean possible = guests >= LEAST_SEATS && guests <= Seating.MOST;
        if (!possible || what != 0 && !isBelow(what - 10, guests)) {
            return NONE;
        }
        if (bestSeating == null) {
            bestSeating = new Seating(evening);
        }
        bestSeating.solve(guests);
        return what == 0 ? bestSeating.merry : bestSeating.best[what - 10];
    }

    public int change(int what) {
        if (!isBelow(what, 3)) {
            return NONE;
        }
        evening.begin();
        int now = evening.merryOf(house.table.sitter, house.table.seats);
        int most = now;
        int lesser = NONE;
        int other = NONE;
        for (int a = 0; a < house.table.guests; a++) {
            for (int b = a + 1; b < house.table.guests; b++) {
                int merry = merryChanged(a, b);
                if (merry > most) {
                    most = merry;
                    lesser = a;
                    other = b;
                }
            }
        }
        if (lesser == NONE) {
            return NONE;
        }
        if (what == 2) {
            return most - now;
        }
        return what == 0 ? lesser : other;
    }

    public int like(int half, int m) {
        if (!house.halves.has(half) || !isBelow(m, WITS)) {
            return NONE;
        }
        int set = 0;
        for (int other = 0; other < house.halves.count; other++) {
            if (house.halves.isLike(half, other, m)) {
                set |= 1 << other;
            }
        }
        return set;
    }

    public int silent(int family) {
        if (!isBelow(family, FAMILIES)) {
            return NONE;
        }
        evening.begin();
        int set = 0;
        for (int other = 0; other < FAMILIES; other++) {
            if (other != family && !evening.findOf(family, other)) {
                set |= 1 << other;
            }
        }
        return set;
    }

    public int worth(int n, int what) {
        boolean ofHalf = house.halves.has(what - 10) && n >= 0 && n <= Worths.ROUNDS;
        if (what != 0 && what != 1 && !ofHalf) {
            return NONE;
        }
        if (worths == null) {
            worths = new Worths();
        }
        worths.solve(house);
        if (what == 0) {
            return worths.settled;
        }
        return what == 1 ? worths.circle : worths.rows[n * HALVES + what - 10];
    }

    public int away(int v) {
        evening.begin();
        Table table = house.table;
        int set = 0;
        for (int guest = 0; guest < table.guests; guest++) {
            int seat = table.place[guest];
            if (seat != NONE) {
                System.arraycopy(table.sitter, 0, row, 0, SEATS);
                row[seat] = NONE;
                if (evening.merryOf(row, table.seats) == v) {
                    set |= 1 << guest;
                }
            }
        }
        return set;
    }

    public int uncle(int family, int what) {
        if (!isBelow(family, FAMILIES) || !isBelow(what, 2)) {
            return NONE;
        }
        int most = NONE;
        int best = NONE;
        for (int heir = 0; heir < FAMILIES; heir++) {
            if (heir != family) {
                evening.begin();
                evening.leaveAll(family, heir);
                int merry = evening.merryOf(house.table.sitter, house.table.seats);
                if (merry > most) {
                    most = merry;
                    best = heir;
                }
            }
        }
        return what == 0 ? best : most;
    }

    public boolean undo() {
        return past.goBack(house);
    }

    public boolean image(boolean taken) {
        if (taken) {
            if (kept == null) {
                kept = new House();
            }
            kept.copyFrom(house);
            return true;
        }
        if (kept == null) {
            return false;
        }
        house.copyFrom(kept);
        past.forget();
        return true;
    }

    public int look(int what) {
        switch (what) {
            case 0:
                return house.table.seats;
            case 1:
                return house.need;
            case 2:
                return house.spoil;
            case 3:
                return house.halves.count;
            case 4:
                return house.table.guests;
            case 5:
                return house.book.night;
            case 6:
                return house.book.lines;
            case 7:
                return house.draws;
            case 8:
                return house.law.lines;
            case 9:
                return past.count;
            default:
                return lookInRows(what);
        }
    }

    private int lookInRows(int what) {
        if (what >= 10 && what < 10 + house.table.seats) {
            return house.table.sitter[what - 10];
        }
        return what >= 20 && what < 20 + FAMILIES ? house.feuds[what - 20] : NONE;
    }

    private boolean arePair(int front, int end) {
        return house.halves.isOn(front, FRONT_SIDE) && house.halves.isOn(end, END_SIDE);
    }

    private int merryChanged(int a, int b) {
        Table table = house.table;
        int seatOfA = table.place[a];
        int seatOfB = table.place[b];
        if (seatOfA == NONE || seatOfB == NONE) {
            return NONE;
        }
        System.arraycopy(table.sitter, 0, row, 0, SEATS);
        row[seatOfA] = b;
        row[seatOfB] = a;
        return evening.merryOf(row, table.seats);
    }

    private int spendEvening() {
        past.keep(house);
        evening.begin();
        int sum = 0;
        Table table = house.table;
        for (int seat = 0; seat < table.seats; seat++) {
            if (evening.findBetween(table.sitter[seat], table.sitter[table.beside(seat)])) {
                sum += tellFound();
            }
        }
        house.book.night++;
        return sum;
    }

    private int tellFound() {
        int pair = pairOf(evening.front, evening.end);
        Book book = house.book;
        past.note(pair, book.last[pair]);
        book.told[pair]++;
        book.last[pair] = book.night;
        evening.laughs[pair] = Evening.UNKNOWN;
        boolean spoilt = house.spoil > 0 && house.draw(MOST_SPOIL) < house.spoil;
        int laugh = spoilt ? 0 : evening.laugh;
        book.write(evening, laugh);
        for (int family = 0; family < FAMILIES; family++) {
            int quarters = house.halves.quartersOf(evening.front, family)
                + house.halves.quartersOf(evening.end, family);
            book.fame[family] += laugh * quarters;
        }
        return laugh;
    }

    private static boolean isBelow(int v, int bound) {
        return v >= 0 && v < bound;
    }

    private static boolean isIn(int i, int set) {
        return (set >> i & 1) != 0;
    }

    private static int pairOf(int front, int end) {
        return front * HALVES + end;
    }

    /** All that the image keeps. */
    private static final class House {
        final Halves halves = new Halves();
        final Table table = new Table();
        final Book book = new Book();
        final Law law = new Law();
        final int[] feuds = new int[FAMILIES];
        final int[] facts = new int[Law.FACTS];
        int need = 2;
        int spoil;
        int draws;

        void copyFrom(House other) {
            halves.copyFrom(other.halves);
            table.copyFrom(other.table);
            book.copyFrom(other.book);
            law.copyFrom(other.law);
            System.arraycopy(other.feuds, 0, feuds, 0, FAMILIES);
            need = other.need;
            spoil = other.spoil;
            draws = other.draws;
        }

        int draw(int m) {
            draws = 1664525 * draws + 1013904223;
            return m > 0 ? (draws >>> 8) % m : 0;
        }

        void quarrel(int a, int b, boolean is) {
            feuds[a] = is ? feuds[a] | 1 << b : feuds[a] & ~(1 << b);
            feuds[b] = is ? feuds[b] | 1 << a : feuds[b] & ~(1 << a);
        }

        /** The LAUGH, if the two had been told so many times more this NIGHT. */
        int laughOf(int front, int end, int more) {
            int pair = pairOf(front, end);
            int times = book.told[pair] + more;
            int since = more > 0 ? 0 : book.night - book.last[pair];
            facts[0] = halves.wit[front];
            facts[1] = halves.wit[end];
            facts[2] = halves.joke[front] == halves.joke[end] ? 1 : 0;
            facts[3] = times;
            facts[4] = times == 0 ? LAST_NIGHT : since;
            facts[5] = book.night;
            facts[6] = halves.joke[front];
            return law.valueOf(facts);
        }
    }

    /** The HALVES and whose their QUARTERS are. */
    private static final class Halves {
        final int[] side = new int[HALVES];
        final int[] joke = new int[HALVES];
        final int[] wit = new int[HALVES];
        final int[] quarters = new int[HALVES * FAMILIES];
        int count;

        void copyFrom(Halves other) {
            System.arraycopy(other.side, 0, side, 0, HALVES);
            System.arraycopy(other.joke, 0, joke, 0, HALVES);
            System.arraycopy(other.wit, 0, wit, 0, HALVES);
            System.arraycopy(other.quarters, 0, quarters, 0, HALVES * FAMILIES);
            count = other.count;
        }

        boolean has(int half) {
            return isBelow(half, count);
        }

        boolean isOn(int half, int wanted) {
            return has(half) && side[half] == wanted;
        }

        int quartersOf(int half, int family) {
            return quarters[half * FAMILIES + family];
        }

        int add(int end, int newJoke, int newWit, int family) {
            int half = count;
            side[half] = end;
            joke[half] = newJoke;
            wit[half] = newWit;
            // An image gone back to may have left the QUARTERS of a HALF that is no more.
            for (int other = 0; other < FAMILIES; other++) {
                quarters[half * FAMILIES + other] = other == family ? QUARTERS : 0;
            }
            count++;
            return half;
        }

        void move(int half, int n, int from, int to) {
            quarters[half * FAMILIES + from] -= n;
            quarters[half * FAMILIES + to] += n;
        }

        /** Leaves all that a FAMILY has of a HALF to the HEIRS in turn: how many QUARTERS. */
        int inherit(int half, int family, int set) {
            int left = quartersOf(half, family);
            int gone = 0;
            for (int turn = 0; turn < QUARTERS * FAMILIES && gone < left; turn++) {
                int heir = turn % FAMILIES;
                if (isIn(heir, set)) {
                    move(half, 1, family, heir);
                    gone++;
                }
            }
            return gone;
        }

        boolean isLike(int half, int other, int m) {
            if (other == half || side[other] != side[half] || Math.abs(wit[other] - wit[half]) > m) {
                return false;
            }
            for (int family = 0; family < FAMILIES; family++) {
                if (quartersOf(other, family) > 0 && quartersOf(half, family) == 0) {
                    return true;
                }
            }
            return false;
        }

        int setOn(int wanted) {
            int set = 0;
            for (int half = 0; half < count; half++) {
                if (side[half] == wanted) {
                    set |= 1 << half;
                }
            }
            return set;
        }
    }

    /** THE TABLE, its GUESTS and who sits where. */
    private static final class Table {
        final int[] family = new int[GUESTS];
        final int[] place = new int[GUESTS];
        final int[] sitter = new int[SEATS];
        int seats;
        int guests;

        Table() {
            layFor(6);
        }

        void copyFrom(Table other) {
            System.arraycopy(other.family, 0, family, 0, GUESTS);
            System.arraycopy(other.place, 0, place, 0, GUESTS);
            System.arraycopy(other.sitter, 0, sitter, 0, SEATS);
            seats = other.seats;
            guests = other.guests;
        }

        void layFor(int n) {
            seats = n;
            for (int seat = 0; seat < SEATS; seat++) {
                sitter[seat] = NONE;
            }
            for (int guest = 0; guest < GUESTS; guest++) {
                place[guest] = NONE;
            }
        }

        int add(int newFamily) {
            int guest = guests;
            family[guest] = newFamily;
            place[guest] = NONE;
            guests++;
            return guest;
        }

        boolean canSit(int guest, int seat) {
            if (!isBelow(guest, guests)) {
                return false;
            }
            if (seat == NONE) {
                return true;
            }
            return isBelow(seat, seats) && (sitter[seat] == NONE || sitter[seat] == guest);
        }

        void sit(int guest, int seat) {
            if (place[guest] != NONE) {
                sitter[place[guest]] = NONE;
            }
            place[guest] = seat;
            if (seat != NONE) {
                sitter[seat] = guest;
            }
        }

        int beside(int seat) {
            return seat + 1 < seats ? seat + 1 : 0;
        }
    }

    /** What was told: TOLD, LAST, FAME, NIGHT and the lines of THE BOOK. */
    private static final class Book {
        static final int LINES = 100;
        static final int WIDTH = 6;

        final int[] told = new int[PAIRS];
        final int[] last = new int[PAIRS];
        final int[] fame = new int[FAMILIES];
        final int[] rows = new int[LINES * WIDTH];
        int lines;
        int night;

        void copyFrom(Book other) {
            System.arraycopy(other.told, 0, told, 0, PAIRS);
            System.arraycopy(other.last, 0, last, 0, PAIRS);
            System.arraycopy(other.fame, 0, fame, 0, FAMILIES);
            System.arraycopy(other.rows, 0, rows, 0, other.lines * WIDTH);
            lines = other.lines;
            night = other.night;
        }

        void write(Evening found, int laugh) {
            if (lines >= LINES) {
                return;
            }
            int at = lines * WIDTH;
            rows[at] = found.front;
            rows[at + 1] = found.end;
            rows[at + 2] = found.opener;
            rows[at + 3] = found.closer;
            rows[at + 4] = night;
            rows[at + 5] = laugh;
            lines++;
        }
    }

    /** The latest EVENINGS, so that they can go back. */
    private static final class Past {
        static final int KEPT = 6;

        final int[] tellings = new int[KEPT];
        final int[] pairs = new int[KEPT * SEATS];
        final int[] lasts = new int[KEPT * SEATS];
        final int[] fames = new int[KEPT * FAMILIES];
        final int[] lines = new int[KEPT];
        final int[] draws = new int[KEPT];
        int newest;
        int count;

        void forget() {
            count = 0;
        }

        void keep(House house) {
            newest = (newest + 1) % KEPT;
            count = Math.min(count + 1, KEPT);
            tellings[newest] = 0;
            lines[newest] = house.book.lines;
            draws[newest] = house.draws;
            System.arraycopy(house.book.fame, 0, fames, newest * FAMILIES, FAMILIES);
        }

        void note(int pair, int last) {
            if (tellings[newest] >= SEATS) {
                return;
            }
            int at = newest * SEATS + tellings[newest];
            pairs[at] = pair;
            lasts[at] = last;
            tellings[newest]++;
        }

        boolean goBack(House house) {
            if (count == 0) {
                return false;
            }
            Book book = house.book;
            // Backwards, for one pair may have been told at several SEATS of the EVENING.
            for (int i = tellings[newest] - 1; i >= 0; i--) {
                int pair = pairs[newest * SEATS + i];
                book.told[pair]--;
                book.last[pair] = lasts[newest * SEATS + i];
            }
            System.arraycopy(fames, newest * FAMILIES, book.fame, 0, FAMILIES);
            book.lines = lines[newest];
            book.night--;
            house.draws = draws[newest];
            newest = (newest + KEPT - 1) % KEPT;
            count--;
            return true;
        }
    }

    /** THE LAW as steps that work on a stack: a line's E, its B, then WHEN or SEMICOLON. */
    private static final class Law {
        static final int END_OF_TEXT = 0;
        static final int BAD = 1;
        static final int NUMBER = 2;
        static final int LAUGH = 3;
        static final int WHEN = 4;
        static final int OR = 5;
        static final int AND = 6;
        static final int NOT = 7;
        static final int FRONT = 8;
        static final int JOKE = 14;
        static final int SEMICOLON = 15;
        static final int PLUS = 16;
        static final int MINUS = 17;
        static final int TIMES = 18;
        static final int OVER = 19;
        static final int OPEN = 20;
        static final int CLOSE = 21;
        static final int LESS = 22;
        static final int EQUAL = 23;
        static final int MORE = 24;

        static final int FACTS = JOKE - FRONT + 1;
        static final int MOST_LAUGH = 999;
        // Eight open ( keep two values each; a line's E and one comparison a handful more.
        static final int STACK = 40;
        // Two values that are always there, so that no step looks below the stack.
        static final int FLOOR = 2;

        final int[] steps = new int[TAPE_LENGTH];
        final int[] numbers = new int[TAPE_LENGTH];
        final int[] stack = new int[STACK];
        int size;
        int lines;

        void clear() {
            size = 0;
            lines = 0;
        }

        void copyFrom(Law other) {
            System.arraycopy(other.steps, 0, steps, 0, other.size);
            System.arraycopy(other.numbers, 0, numbers, 0, other.size);
            size = other.size;
            lines = other.lines;
        }

        void add(int step, int number) {
            if (size < TAPE_LENGTH) {
                steps[size] = step;
                numbers[size] = number;
                size++;
            }
        }

        int valueOf(int[] facts) {
            int top = FLOOR;
            for (int i = 0; i < size; i++) {
                if (top < FLOOR || top >= STACK) {
                    return 0;
                }
                int step = steps[i];
                if (step == NUMBER) {
                    stack[top] = numbers[i];
                    top++;
                } else if (step >= FRONT && step <= JOKE) {
                    stack[top] = facts[step - FRONT];
                    top++;
                } else if (step == NOT) {
                    stack[top - 1] = 1 - stack[top - 1];
                } else if (step == OVER) {
                    stack[top - 1] = numbers[i] > 0 ? stack[top - 1] / numbers[i] : 0;
                } else if (step == SEMICOLON) {
                    return Math.max(0, Math.min(MOST_LAUGH, stack[top - 1]));
                } else if (step == WHEN) {
                    if (stack[top - 1] != 0) {
                        return Math.max(0, Math.min(MOST_LAUGH, stack[top - 2]));
                    }
                    top = FLOOR;
                } else {
                    top--;
                    stack[top - 1] = joined(step, stack[top - 1], stack[top]);
                }
            }
            return 0;
        }

        private static int joined(int step, int a, int b) {
            switch (step) {
                case PLUS:
                    return a + b;
                case MINUS:
                    return a - b;
                case TIMES:
                    return a * b;
                case LESS:
                    return a < b ? 1 : 0;
                case EQUAL:
                    return a == b ? 1 : 0;
                case MORE:
                    return a > b ? 1 : 0;
                case AND:
                    return a & b;
                case OR:
                    return a | b;
                default:
                    return 0;
            }
        }
    }

    /** The TAPE, and how it is read as a LAW. */
    private static final class Reader {
        static final int MOST_LINES = 16;
        static final int MOST_OPEN = 8;
        static final int MOST_DIGITS = 4;
        static final int CANT_STAND = 1;
        static final int PART_BY_ZERO = 2;
        static final int TOO_MUCH = 3;
        static final int WORD_LENGTH = 5;
        static final int WORDS = 12;
        // In the order of Law.LAUGH to Law.JOKE, each filled up with blanks.
        static final String KEYWORDS = "laughwhen or   and  not  frontend  same told sincenightjoke ";
        // In the order of Law.SEMICOLON to Law.MORE.
        static final String SIGNS = ";+-*/()<=>";

        final char[] tape = new char[TAPE_LENGTH];
        final int[] kinds = new int[TAPE_LENGTH + 1];
        final int[] values = new int[TAPE_LENGTH + 1];
        final int[] places = new int[TAPE_LENGTH + 1];
        final Law draft = new Law();
        int length;
        int fault;
        int faultPlace = NONE;
        private int tokens;
        private int at;
        private int kind;

        boolean hasRoom(int n) {
            return length + n <= TAPE_LENGTH;
        }

        void put(int word) {
            for (int shift = 24; shift >= 0 && length < TAPE_LENGTH; shift -= 8) {
                tape[length] = (char) (word >>> shift & 255);
                length++;
            }
        }

        /** Reads the TAPE into the draft: whether it is without a FAULT. */
        boolean readLaw() {
            split();
            draft.clear();
            fault = 0;
            faultPlace = NONE;
            at = 0;
            kind = kinds[0];
            for (int i = 0; i <= TAPE_LENGTH && kind != Law.END_OF_TEXT && fault == 0; i++) {
                readLine();
            }
            return fault == 0;
        }

        private void split() {
            tokens = 0;
            int from = 0;
            while (from < length) {
                from = Math.max(from + 1, takeToken(from));
            }
            addToken(Law.END_OF_TEXT, 0, length);
        }

        private void addToken(int newKind, int value, int place) {
            if (tokens <= TAPE_LENGTH) {
                kinds[tokens] = newKind;
                values[tokens] = value;
                places[tokens] = place;
                tokens++;
            }
        }

        /** Takes what stands there, if it is no blank: where it ends. */
        private int takeToken(int from) {
            char c = tape[from];
            if (c == ' ' || c == '\n') {
                return from + 1;
            }
            if (isLetter(c)) {
                return takeWord(from);
            }
            if (isDigit(c)) {
                return takeNumber(from);
            }
            int sign = SIGNS.indexOf(c);
            addToken(sign < 0 ? Law.BAD : Law.SEMICOLON + sign, 0, from);
            return from + 1;
        }

        private int takeWord(int from) {
            int to = from;
            while (to < length && isLetter(tape[to])) {
                to++;
            }
            int found = Law.BAD;
            for (int word = 0; word < WORDS; word++) {
                if (isWord(word, from, to)) {
                    found = Law.LAUGH + word;
                }
            }
            addToken(found, 0, from);
            return to;
        }

        private boolean isWord(int word, int from, int to) {
            if (to - from > WORD_LENGTH) {
                return false;
            }
            for (int i = 0; i < WORD_LENGTH; i++) {
                char there = from + i < to ? tape[from + i] : ' ';
                if (there != KEYWORDS.charAt(word * WORD_LENGTH + i)) {
                    return false;
                }
            }
            return true;
        }

        private int takeNumber(int from) {
            int to = from;
            int value = 0;
            while (to < length && isDigit(tape[to])) {
                value = value * 10 + tape[to] - '0';
                to++;
            }
            addToken(to - from > MOST_DIGITS ? Law.BAD : Law.NUMBER, value, from);
            return to;
        }

        private static boolean isLetter(char c) {
            return c >= 'a' && c <= 'z' || c >= 'A' && c <= 'Z';
        }

        private static boolean isDigit(char c) {
            return c >= '0' && c <= '9';
        }

        private void blame(int newFault) {
            if (fault == 0) {
                fault = newFault;
                faultPlace = places[at];
                // Nothing can follow it, so that all that is open ends by itself.
                kind = Law.BAD;
            }
        }

        private void step() {
            if (fault == 0 && at + 1 < tokens) {
                at++;
                kind = kinds[at];
            }
        }

        private void expect(int first, int last) {
            if (kind >= first && kind <= last) {
                step();
            } else {
                blame(CANT_STAND);
            }
        }

        private void readLine() {
            if (kind == Law.LAUGH && draft.lines >= MOST_LINES) {
                blame(TOO_MUCH);
                return;
            }
            expect(Law.LAUGH, Law.LAUGH);
            readSum();
            int last = kind;
            if (last == Law.WHEN) {
                step();
                readCondition(0);
            }
            expect(Law.SEMICOLON, Law.SEMICOLON);
            draft.add(last, 0);
            draft.lines++;
        }

        private void readCondition(int open) {
            boolean more = true;
            int waiting = Law.BAD;
            for (int i = 0; i < TAPE_LENGTH && more; i++) {
                readClause(open);
                for (int k = 0; k < TAPE_LENGTH && kind == Law.AND; k++) {
                    step();
                    readClause(open);
                    draft.add(Law.AND, 0);
                }
                if (waiting == Law.OR) {
                    draft.add(Law.OR, 0);
                }
                waiting = kind;
                more = kind == Law.OR;
                if (more) {
                    step();
                }
            }
        }

        /** Reads a C; so many ( and not are open around it. */
        private void readClause(int open) {
            int first = kind;
            if ((first == Law.NOT || first == Law.OPEN) && open >= MOST_OPEN) {
                blame(TOO_MUCH);
            } else if (first == Law.NOT) {
                step();
                readClause(open + 1);
                draft.add(Law.NOT, 0);
            } else if (first == Law.OPEN) {
                step();
                readCondition(open + 1);
                expect(Law.CLOSE, Law.CLOSE);
            } else {
                readSum();
                int sign = kind;
                expect(Law.LESS, Law.MORE);
                readSum();
                draft.add(sign, 0);
            }
        }

        private void readSum() {
            boolean more = true;
            int waiting = Law.BAD;
            for (int i = 0; i < TAPE_LENGTH && more; i++) {
                readUnit(Law.BAD);
                for (int k = 0; k < TAPE_LENGTH && (kind == Law.TIMES || kind == Law.OVER); k++) {
                    int sign = kind;
                    step();
                    readUnit(sign);
                }
                if (waiting == Law.PLUS || waiting == Law.MINUS) {
                    draft.add(waiting, 0);
                }
                waiting = kind;
                more = kind == Law.PLUS || kind == Law.MINUS;
                if (more) {
                    step();
                }
            }
        }

        /** Reads a U, or what stands behind TIMES or OVER, and does that. */
        private void readUnit(int sign) {
            boolean isNumber = kind == Law.NUMBER;
            boolean isFact = kind >= Law.FRONT && kind <= Law.JOKE;
            if (!isNumber && (!isFact || sign == Law.OVER)) {
                blame(CANT_STAND);
                return;
            }
            if (sign == Law.OVER && values[at] == 0) {
                blame(PART_BY_ZERO);
                return;
            }
            draft.add(sign == Law.OVER ? Law.OVER : kind, values[at]);
            if (sign == Law.TIMES) {
                draft.add(Law.TIMES, 0);
            }
            step();
        }
    }

    /** Finds TELLINGS, and tells them in thought without touching the house. */
    private static final class Evening {
        static final int UNKNOWN = -1;

        final House house;
        final int[] laughs = new int[PAIRS];
        final int[] more = new int[PAIRS];
        final int[] can = new int[FAMILIES];
        final int[] trailPair = new int[SEATS];
        final int[] trailLaugh = new int[SEATS];
        int trail;
        int fronts;
        int ends;
        // The TELLING that was found last.
        int front;
        int end;
        int laugh;
        int opener;
        int closer;

        Evening(House house) {
            this.house = house;
        }

        void begin() {
            for (int pair = 0; pair < PAIRS; pair++) {
                laughs[pair] = UNKNOWN;
            }
            fronts = house.halves.setOn(FRONT_SIDE);
            ends = house.halves.setOn(END_SIDE);
            for (int family = 0; family < FAMILIES; family++) {
                can[family] = tellable(family, family);
            }
        }

        /** The HALVES that one FAMILY can tell, if it has another one's QUARTERS too. */
        private int tellable(int family, int uncle) {
            int set = 0;
            for (int half = 0; half < house.halves.count; half++) {
                int quarters = house.halves.quartersOf(half, family);
                if (uncle != family) {
                    quarters += house.halves.quartersOf(half, uncle);
                }
                if (quarters >= house.need) {
                    set |= 1 << half;
                }
            }
            return set;
        }

        void leaveAll(int uncle, int heir) {
            can[heir] = tellable(heir, uncle);
            can[uncle] = 0;
        }

        boolean findBetween(int guest, int next) {
            if (guest == NONE || next == NONE) {
                return false;
            }
            int family = house.table.family[guest];
            int other = house.table.family[next];
            if (!findOf(family, other)) {
                return false;
            }
            boolean first = isIn(front, can[family]) && isIn(end, can[other]);
            opener = first ? guest : next;
            closer = first ? next : guest;
            return true;
        }

        boolean findOf(int family, int other) {
            laugh = 0;
            if (family == other || isIn(other, house.feuds[family])) {
                return false;
            }
            int count = house.halves.count;
            for (int f = 0; f < count; f++) {
                int set = partnersOf(f, can[family], can[other]);
                for (int e = 0; e < count && set != 0; e++) {
                    if (isIn(e, set)) {
                        int pair = pairOf(f, e);
                        if (laughs[pair] == UNKNOWN) {
                            laughs[pair] = house.laughOf(f, e, more[pair]);
                        }
                        if (laughs[pair] > laugh) {
                            laugh = laughs[pair];
                            front = f;
                            end = e;
                        }
                    }
                }
            }
            return laugh > 0;
        }

        /** The ENDS that one of two can tell, while the other one can tell the FRONT. */
        private int partnersOf(int f, int ones, int others) {
            if (!isIn(f, fronts)) {
                return 0;
            }
            return ((isIn(f, ones) ? others : 0) | (isIn(f, others) ? ones : 0)) & ends;
        }

        /** Tells in thought what the two would tell: its LAUGH, 0 if there is nothing. */
        int tellBetween(int guest, int next) {
            if (trail >= SEATS || guest == NONE || next == NONE) {
                return 0;
            }
            if (!findOf(house.table.family[guest], house.table.family[next])) {
                return 0;
            }
            int pair = pairOf(front, end);
            trailPair[trail] = pair;
            trailLaugh[trail] = laugh;
            trail++;
            more[pair]++;
            laughs[pair] = UNKNOWN;
            return laugh;
        }

        void untell() {
            if (trail > 0) {
                trail--;
                int pair = trailPair[trail];
                more[pair]--;
                laughs[pair] = trailLaugh[trail];
            }
        }

        int merryOf(int[] sitters, int seats) {
            int sum = 0;
            for (int seat = 0; seat < seats; seat++) {
                sum += tellBetween(sitters[seat], sitters[seat + 1 < seats ? seat + 1 : 0]);
            }
            for (int seat = 0; seat < seats; seat++) {
                untell();
            }
            return sum;
        }
    }

    /** Tries all rows of GUESTS, SEAT by SEAT, so that rows that begin alike share their TELLINGS. */
    private static final class Seating {
        static final int MOST = 7;

        final Evening evening;
        final int[] tried = new int[MOST];
        final int[] best = new int[MOST];
        int guests;
        int merry;

        Seating(Evening evening) {
            this.evening = evening;
        }

        void solve(int n) {
            guests = Math.min(n, MOST);
            merry = NONE;
            tried[0] = 0;
            evening.begin();
            place(1, 1, 0);
        }

        private void place(int seat, int used, int sum) {
            if (seat >= guests) {
                int last = evening.tellBetween(tried[guests - 1], tried[0]);
                takeBack(last);
                keepBest(sum + last);
                return;
            }
            for (int guest = 1; guest < guests; guest++) {
                if (!isIn(guest, used)) {
                    tried[seat] = guest;
                    int gained = evening.tellBetween(tried[seat - 1], guest);
                    place(seat + 1, used | 1 << guest, sum + gained);
                    takeBack(gained);
                }
            }
        }

        private void takeBack(int gained) {
            if (gained > 0) {
                evening.untell();
            }
        }

        private void keepBest(int sum) {
            if (sum > merry) {
                merry = sum;
                System.arraycopy(tried, 0, best, 0, guests);
            }
        }
    }

    /** FIT: the greatest sums of the FRONTS from one on, for each set of ENDS still free. */
    private static final class Fit {
        static final int MOST = 8;
        static final int SETS = 1 << MOST;

        final int[] most = new int[(MOST + 1) * SETS];
        final int[] laughs = new int[MOST * MOST];
        final int[] fronts = new int[MOST];
        final int[] ends = new int[MOST];
        final int[] partner = new int[HALVES];
        int frontCount;
        int endCount;
        int sum;

        boolean solve(House house) {
            if (!gather(house.halves)) {
                return false;
            }
            for (int f = 0; f < frontCount; f++) {
                for (int e = 0; e < endCount; e++) {
                    laughs[f * MOST + e] = house.laughOf(fronts[f], ends[e], 0);
                }
            }
            int sets = 1 << endCount;
            for (int set = 0; set < sets; set++) {
                most[frontCount * SETS + set] = 0;
            }
            for (int f = frontCount - 1; f >= 0; f--) {
                for (int set = 0; set < sets; set++) {
                    most[f * SETS + set] = mostFrom(f, set);
                }
            }
            sum = most[sets - 1];
            choose(sets - 1);
            return true;
        }

        private boolean gather(Halves halves) {
            frontCount = 0;
            endCount = 0;
            for (int half = 0; half < halves.count; half++) {
                boolean isFront = halves.side[half] == FRONT_SIDE;
                if ((isFront ? frontCount : endCount) >= MOST) {
                    return false;
                }
                if (isFront) {
                    fronts[frontCount] = half;
                    frontCount++;
                } else {
                    ends[endCount] = half;
                    endCount++;
                }
            }
            return true;
        }

        private int mostFrom(int f, int set) {
            int found = most[(f + 1) * SETS + set];
            for (int e = 0; e < endCount; e++) {
                if (isIn(e, set)) {
                    found = Math.max(found, sumWith(f, e, set));
                }
            }
            return found;
        }

        private int sumWith(int f, int e, int set) {
            return laughs[f * MOST + e] + most[(f + 1) * SETS + (set & ~(1 << e))];
        }

        private void choose(int all) {
            for (int half = 0; half < HALVES; half++) {
                partner[half] = NONE;
            }
            int set = all;
            for (int f = 0; f < frontCount; f++) {
                int e = leastPartner(f, set);
                if (e != NONE) {
                    partner[fronts[f]] = ends[e];
                    partner[ends[e]] = fronts[f];
                    set &= ~(1 << e);
                }
            }
        }

        private int leastPartner(int f, int set) {
            for (int e = 0; e < endCount; e++) {
                if (isIn(e, set) && sumWith(f, e, set) == most[f * SETS + set]) {
                    return e;
                }
            }
            return NONE;
        }
    }

    /** WORTHS of all HALVES behind 0 to 40 rounds. */
    private static final class Worths {
        static final int ROUNDS = 40;

        final int[] rows = new int[(ROUNDS + 1) * HALVES];
        final int[] laughs = new int[PAIRS];
        int settled;
        int circle;

        void solve(House house) {
            Halves halves = house.halves;
            for (int half = 0; half < halves.count; half++) {
                rows[half] = halves.wit[half];
                for (int other = 0; other < halves.count; other++) {
                    if (halves.side[half] == FRONT_SIDE && halves.side[other] == END_SIDE) {
                        int laugh = house.laughOf(half, other, 0);
                        laughs[pairOf(half, other)] = laugh;
                        laughs[pairOf(other, half)] = laugh;
                    }
                }
            }
            for (int round = 1; round <= ROUNDS; round++) {
                for (int half = 0; half < halves.count; half++) {
                    rows[round * HALVES + half] = greatest(halves, half, (round - 1) * HALVES);
                }
            }
            judge(halves.count);
        }

        private int greatest(Halves halves, int half, int before) {
            int found = 0;
            for (int other = 0; other < halves.count; other++) {
                if (halves.side[other] != halves.side[half]) {
                    found = Math.max(found, laughs[pairOf(half, other)] - rows[before + other]);
                }
            }
            return found;
        }

        private void judge(int count) {
            settled = NONE;
            circle = 0;
            for (int round = 1; round <= ROUNDS; round++) {
                for (int earlier = 0; earlier < round; earlier++) {
                    if (areAlike(earlier, round, count)) {
                        boolean still = earlier == round - 1;
                        settled = still ? earlier : NONE;
                        circle = still ? 0 : round - earlier;
                        return;
                    }
                }
            }
        }

        private boolean areAlike(int a, int b, int count) {
            for (int half = 0; half < count; half++) {
                if (rows[a * HALVES + half] != rows[b * HALVES + half]) {
                    return false;
                }
            }
            return true;
        }
    }
}
