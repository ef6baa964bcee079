/** Each boundary case that 'Terms' names beside the law's text: by a promise at which it is seen, and its sentence. */
public final class BoundsOfTermsTest {
    private static final int MIN = Scenes.MIN;
    private static final int MAX = Scenes.MAX;

    private static void due(String what, int got, int want) {
        Scenes.due(what, got, want);
    }

    private static void due(String what, boolean got, boolean want) {
        Scenes.due(what, got, want);
    }

    /** The STATE behind one DRAW. */
    private static int next(int state) {
        return state * 1664525 + 1013904223;
    }

    /** A STATE from which the next one is below 0 or not, and whose DRAW of 1000 is neither at its low nor at its high edge. */
    private static int stateBefore(boolean negative) {
        int state = 1;
        while (next(state) < 0 != negative || drawn(state) < 200 || drawn(state) > 800) state++;
        return state;
    }

    /** By whole numbers, so that no sign and no shift comes in. */
    private static int drawn(int state) {
        long whole = ((long) state * 1664525 + 1013904223) % 4294967296L;
        long unsigned = whole < 0 ? whole + 4294967296L : whole;
        return (int) (unsigned / 256 % 1000);
    }

    @Says(promise = 1, sentence = "STATE of draws (an int, 0 at first)")
    static void stateAtFirst() {
        due("STATE", new HalfAJoke().look(7), 0);
        due("STATE", new HalfAJoke().state(3), 0);
    }

    @Says(promise = 2, sentence = "it becomes 1664525 times itself + 1013904223 (ints, which wrap)")
    static void theStateWraps() {
        HalfAJoke x = Scenes.pair("laugh 9;");
        x.set(2, 1000);
        for (int state : new int[] {0, 1, -1, MIN, MAX, 1289}) {
            x.state(state);
            x.evenings(1);
            due("behind " + state, x.look(7), next(state));
        }
    }

    @Says(promise = 2, sentence = "then it is its highest 24 bits (without sign) modulo m.")
    static void theDrawIsWithoutSign() {
        HalfAJoke x = Scenes.pair("laugh 9;");
        for (boolean negative : new boolean[] {true, false}) {
            int state = stateBefore(negative);
            x.set(2, drawn(state));
            x.state(state);
            due("not below", x.evenings(1), 9);
            x.set(2, drawn(state) + 1);
            x.state(state);
            due("below", x.evenings(1), 0);
        }
    }

    @Says(promise = 3, sentence = "FAMILIES 0 .. 5.")
    static void sixFamilies() {
        HalfAJoke x = new HalfAJoke();
        for (int f = 0; f < 6; f++) {
            due("half of " + f, x.half(0, 0, 0, f), f);
            due("guest of " + f, x.guest(f), f);
            due("fame of " + f, x.fame(f), 0);
        }
        due("half of a seventh", x.half(0, 0, 0, 6), -1);
        due("guest of a seventh", x.guest(6), -1);
        due("fame of a seventh", x.fame(6), -1);
        due("half below", x.half(0, 0, 0, -1), -1);
        due("guest below", x.guest(-1), -1);
    }

    @Says(promise = 3, sentence = "a FRONT (0) or an END (1), a JOKE 0 .. 9, WIT 0 .. 99, a FAMILY that has its four QUARTERS at first.")
    static void fourQuartersAtFirst() {
        HalfAJoke x = new HalfAJoke();
        for (int f = 0; f < 6; f++) {
            x.half(f % 2, 9 * (f % 2), 99 * (f % 2), f);
            for (int other = 0; other < 6; other++) due("of " + other, x.of(f, 10 + other), other == f ? 4 : 0);
            due("side", x.of(f, 0), f % 2);
            due("joke", x.of(f, 1), 9 * (f % 2));
            due("wit", x.of(f, 2), 99 * (f % 2));
        }
    }

    @Says(promise = 3, sentence = "HALVES 0 .. 15 as they come")
    static void sixteenHalvesAsTheyCome() {
        HalfAJoke x = new HalfAJoke();
        x.image(true);
        for (int i = 0; i < 16; i++) due("half", x.half(i / 8, 0, i, 0), i);
        due("no more", x.half(0, 0, 0, 0), -1);
        x.image(false);
        due("begun anew", x.half(1, 5, 50, 5), 0);
        due("with its own quarters", x.of(0, 10), 0);
        due("with its own quarters", x.of(0, 15), 4);
    }

    /** As many HALVES and GUESTS as there can be: FRONTS 0 .. 7 of FAMILY 0, ENDS 8 .. 15 of FAMILY 1, by turns at a full TABLE. */
    private static HalfAJoke full() {
        HalfAJoke x = new HalfAJoke();
        for (int i = 0; i < 16; i++) x.half(i / 8, i % 8, i, i / 8);
        x.set(0, 8);
        for (int i = 0; i < 8; i++) {
            x.guest(i % 2);
            x.seat(i, i);
        }
        Check.text(x, "laugh front+end;");
        return x;
    }

    @Says(promise = 3, sentence = "HALVES 0 .. 15 as they come")
    static void asManyAsThereCanBe() {
        HalfAJoke x = full();
        due("the last two are told", x.telling(7, 0) * 100 + x.telling(7, 1), 715);
        due("merry", x.merry(), 8 * 22);
        due("no better change", x.change(2), -1);
        due("fit", x.fit(0), 120);
        due("of the last", x.fit(25), 7);
        due("eight guests can't", x.seating(0), -1);
        due("silent", x.silent(0), 60);
        due("worth of the last", x.worth(40, 25), 15);
        due("settled", x.worth(0, 0), 0);
        due("without each", x.away(6 * 22), 255);
        due("nobody can tell then", x.uncle(0, 1), 0);
        due("not like", x.like(15, 99), 0);
        x.give(14, 1, 1, 5);
        x.give(8, 1, 1, 5);
        due("like the last", x.like(15, 99), 1 << 14 | 1 << 8);
        due("an evening", x.evenings(1), 8 * 22);
        due("told", x.told(7, 15), 8);
        due("undone", x.undo(), true);
        due("told", x.told(7, 15), 0);
        due("all go", x.heirs(0, 32), 32);
    }

    @Says(promise = 32, sentence = "gone back to it may be more than once.")
    static void fewerThanThereWere() {
        HalfAJoke x = Scenes.pair("laugh front+end;");
        HalfAJoke y = Scenes.pair("laugh front+end;");
        x.image(true);
        for (int i = 0; i < 14; i++) x.half(i % 2, 0, 90 + i % 10, i % 6);
        for (int i = 0; i < 4; i++) {
            x.guest(i % 2);
            x.seat(2 + i, 2 + i);
        }
        due("more", x.merry() > y.merry(), true);
        x.seating(0);
        x.fit(0);
        Check.text(x, "laugh 150;");
        due("a circle", x.worth(0, 1), 2);
        x.image(false);
        due("merry", x.merry(), y.merry());
        due("fit", x.fit(0), y.fit(0));
        due("seating", x.seating(0), y.seating(0));
        due("worth", x.worth(1, 10) * 1000 + x.worth(1, 11), y.worth(1, 10) * 1000 + y.worth(1, 11));
        due("rounds", x.worth(0, 0), y.worth(0, 0));
        due("no circle", x.worth(0, 1), y.worth(0, 1));
        due("no more halves", x.worth(1, 12), -1);
        due("silent", x.silent(2), y.silent(2));
        due("like", x.like(0, 99), y.like(0, 99));
        due("away", x.away(0), y.away(0));
        due("uncle", x.uncle(0, 1), y.uncle(0, 1));
        due("change", x.change(0), y.change(0));
        due("an evening", x.evenings(1), y.evenings(1));
        due("lines", x.look(6), y.look(6));
    }

    @Says(promise = 9, sentence = "NEED 1 .. 4 (2 at first): a FAMILY can tell a HALF of which it has as many QUARTERS.")
    static void justAsManyQuarters() {
        HalfAJoke x = Scenes.pair("laugh 9;");
        due("at first", x.look(1), 2);
        for (int have = 4; have >= 0; have--) {
            for (int need = 1; need <= 4; need++) {
                x.set(1, need);
                due(have + " of " + need, x.telling(0, 3), have >= need ? 9 : -1);
            }
            x.give(0, 1, 0, 5);
        }
    }

    @Says(promise = 4, sentence = "To GIVE some QUARTERS of a HALF from one FAMILY to another one.")
    static void givenFromAllToAll() {
        HalfAJoke x = Scenes.halves("");
        for (int f = 0; f < 5; f++) due("on from " + f, x.give(0, 4, f, f + 1), true);
        due("all came", x.of(0, 15), 4);
        for (int f = 0; f < 4; f++) due("one to " + f, x.give(0, 1, 5, f), true);
        for (int f = 0; f < 6; f++) due("of " + f, x.of(0, 10 + f), f < 4 ? 1 : 0);
        due("the other half stays", x.of(1, 11), 4);
    }

    @Says(promise = 5, sentence = "its QUARTERS go one by one to the HEIRS by number, round, begun anew with each HALF.")
    static void heirsInTurn() {
        HalfAJoke x = new HalfAJoke();
        for (int i = 0; i < 4; i++) x.half(0, 0, 0, 2);
        for (int i = 1; i < 4; i++) x.give(i, i, 2, 4);
        due("how many", x.heirs(2, 1 | 8 | 32), 4 + 3 + 2 + 1);
        int[][] want = {{2, 0, 0, 1, 0, 1}, {1, 0, 0, 1, 1, 1}, {1, 0, 0, 1, 2, 0}, {1, 0, 0, 0, 3, 0}};
        for (int h = 0; h < 4; h++) for (int f = 0; f < 6; f++) due("of half " + h + " has " + f, x.of(h, 10 + f), want[h][f]);
    }

    @Says(promise = 5, sentence = "A FAMILY DIES OUT for HEIRS (a set of other FAMILIES)")
    static void oneHeirOrFive() {
        HalfAJoke x = Scenes.halves("");
        due("one", x.heirs(0, 32), 4);
        due("has all", x.of(0, 15), 4);
        due("five", x.heirs(5, 31), 4);
        for (int f = 0; f < 6; f++) due("of " + f, x.of(0, 10 + f), f < 4 ? 1 : 0);
        due("the first heir is no other one", x.heirs(0, 1), -1);
        due("the last heir", x.heirs(0, 32), 1);
        due("the first heir", x.heirs(5, 1), 1);
        due("has it", x.of(0, 10), 1);
    }

    @Says(promise = 6, sentence = "FEUDS of two unlike FAMILIES (none at first).")
    static void noFeudsAtFirst() {
        HalfAJoke x = new HalfAJoke();
        for (int f = 0; f < 6; f++) due("of " + f, x.look(20 + f), 0);
        for (int a = 0; a < 6; a++) for (int b = 0; b < 6; b++) due(a + " and " + b, x.feud(a, b, true), a != b);
        for (int f = 0; f < 6; f++) due("of " + f, x.look(20 + f), 63 - (1 << f));
    }

    @Says(promise = 9, sentence = "THE TABLE has N SEATS 0 .. N - 1 in a round (3 .. 8; 6 at first")
    static void threeToEightSeats() {
        HalfAJoke x = new HalfAJoke();
        x.guest(0);
        for (int n = 0; n < 12; n++) {
            boolean can = n >= 3 && n <= 8;
            due(n + " seats", x.set(0, n), can);
            int is = can ? n : n < 3 ? 6 : 8;
            due("N", x.look(0), is);
            due("the last seat", x.seat(0, is - 1), true);
            due("none behind it", x.seat(0, is), false);
        }
    }

    @Says(promise = 9, sentence = "told anew: all SEATS are empty)")
    static void theTableIsEmptyAnew() {
        HalfAJoke x = Scenes.pair("laugh 9;");
        due("the same N", x.set(0, 6), true);
        for (int i = 0; i < 6; i++) due("seat", x.look(10 + i), -1);
        due("he stands", x.who(0, 1), -1);
        due("he too", x.who(1, 1), -1);
        due("guests stay", x.look(4), 2);
        due("nobody laughs", x.merry(), 0);
        x.seat(1, 5);
        due("a wrong N", x.set(0, 9), false);
        due("he still sits", x.who(1, 1), 5);
        due("NEED told anew", x.set(1, 2), true);
        due("he still sits", x.look(15), 1);
    }

    @Says(promise = 19, sentence = "SEAT i is beside (i + 1) modulo N.")
    static void theLastSeatIsBesideTheFirst() {
        for (int n = 3; n <= 8; n++) {
            HalfAJoke x = Scenes.halves("laugh 9;");
            x.set(0, n);
            x.guest(0);
            x.guest(1);
            x.seat(0, 0);
            x.seat(1, n - 1);
            due("at the last of " + n, x.telling(n - 1, 3), 9);
            due("at the first", x.telling(0, 3), -1);
            x.seat(0, 1);
            due("not over one", x.telling(n - 1, 3), -1);
            due("beside, if there are three", x.merry(), n == 3 ? 9 : 0);
            x.seat(0, n - 2);
            due("ahead of the last", x.telling(n - 2, 3), 9);
            due("not at the last", x.telling(n - 1, 3), -1);
        }
    }

    @Says(promise = 7, sentence = "GUESTS 0 .. 7 as they come: a FAMILY, SEAT or none (NONE).")
    static void eightGuestsAsTheyCome() {
        HalfAJoke x = new HalfAJoke();
        x.set(0, 8);
        x.image(true);
        for (int i = 0; i < 8; i++) {
            due("guest", x.guest(5 - i % 6), i);
            due("stands", x.who(i, 1), -1);
            due("sits", x.seat(i, 7 - i), true);
        }
        due("no more", x.guest(0), -1);
        x.image(false);
        due("begun anew", x.guest(3), 0);
        due("he stands", x.who(0, 1), -1);
        due("his family", x.who(0, 0), 3);
    }

    @Says(promise = 14, sentence = "NIGHT 0 .. 9999 (0 at first).")
    static void theLastNight() {
        HalfAJoke x = Scenes.pair("laugh night/10;");
        due("at first", x.look(5), 0);
        due("by the law", x.laugh(0, 1), 0);
        Scenes.sleepTill(x, 9999);
        due("the last", x.look(5), 9999);
        due("by the law", x.laugh(0, 1), 999);
        due("no night behind it", x.evenings(1), -1);
        due("it stays", x.look(5), 9999);
    }

    @Says(promise = 9, sentence = "SPOIL 0 .. 1000 (0 at first).")
    static void spoiltNeverOrAlways() {
        HalfAJoke x = Scenes.pair("laugh 9;");
        due("at first", x.look(2), 0);
        due("never", x.evenings(50), 450);
        due("without a draw", x.look(7), 0);
        due("the most", x.set(2, 1000), true);
        due("always", x.evenings(50), 0);
        due("more", x.set(2, 1001), false);
        due("less", x.set(2, -1), false);
        due("never again", x.set(2, 0), true);
        int state = x.look(7);
        due("never", x.evenings(50), 450);
        due("without a draw", x.look(7), state);
    }

    @Says(promise = 18, sentence = "TOLD of a FRONT and an END: how often they were told together")
    static void toldOfEachPair() {
        HalfAJoke x = Scenes.pair("laugh 9-told;");
        x.half(1, 0, 0, 1);
        due("never", x.told(0, 1), 0);
        x.evenings(3);
        due("by turns", x.told(0, 1), 2);
        due("by turns", x.told(0, 2), 1);
        x.evenings(50);
        due("till nobody laughs", x.told(0, 1), 9);
        due("till nobody laughs", x.told(0, 2), 9);
    }

    @Says(promise = 17, sentence = "E of the first line whose B is so, or that has none (none: 0), held to 0 .. 999")
    static void heldToItsBounds() {
        String[] laws = {"laugh 0;", "laugh 0-1;", "laugh 998;", "laugh 999;", "laugh 1000;", "laugh 9999;", "laugh 9999*9999*20;",
            "laugh 9999*9999*30;", "", "laugh 5 when 1=2;", "laugh 5 when 1=2;laugh 6;laugh 7;", "laugh 5 when 1=1;laugh 6;",
            "laugh 0 when 1=1;laugh 6;", "laugh 0-1 when 1=1;laugh 6;", "laugh 999 when 1=1;", "laugh 1000 when 1=1;"};
        int[] want = {0, 0, 998, 999, 999, 999, 999, 0, 0, 0, 6, 5, 0, 0, 999, 999};
        for (int i = 0; i < laws.length; i++) due("by " + laws[i], Scenes.halves(laws[i]).laugh(0, 1), want[i]);
    }

    @Says(promise = 17, sentence = "front, end: WIT of each; same: 1, if both are of one JOKE, else 0; told: TOLD;")
    static void factsAtTheirEdges() {
        HalfAJoke x = new HalfAJoke();
        x.half(0, 9, 99, 0);
        x.half(1, 9, 0, 0);
        x.half(1, 0, 99, 0);
        String[] facts = {"front", "end", "same", "told", "joke", "night"};
        int[] want = {99, 0, 1, 0, 9, 0};
        int[] wantOfOther = {99, 99, 0, 0, 9, 0};
        for (int i = 0; i < facts.length; i++) {
            Check.text(x, "laugh " + facts[i] + ";");
            due(facts[i], x.laugh(0, 1), want[i]);
            due(facts[i], x.laugh(0, 2), wantOfOther[i]);
        }
        Check.text(x, "laugh 7 when same=0 and told=0 and night=0;");
        due("0, not less", x.laugh(0, 2), 7);
    }

    @Says(promise = 17, sentence = "since: NIGHTS since LAST (9999: never); night; joke: of the FRONT.")
    static void sinceLastOrNever() {
        HalfAJoke x = Scenes.pair("laugh since-9990;");
        due("never", x.laugh(0, 1), 9);
        due("told on the first night", x.evenings(1), 9);
        due("one night since", x.laugh(0, 1), 0);
        Scenes.sleepTill(x, 9990);
        due("9990 nights", x.laugh(0, 1), 0);
        due("no laugh, not told", x.told(0, 1), 1);
        due("9991 nights: told", x.evenings(2), 1);
        Check.text(x, "laugh since;");
        due("one night since", x.laugh(0, 1), 1);
        due("told", x.told(0, 1), 2);
        HalfAJoke y = Scenes.pair("laugh 7 when since=0;laugh 1 when since=1;laugh 9;");
        due("never, then one night", y.evenings(3), 9 + 1 + 1);
    }

    @Says(promise = 17, sentence = "since: NIGHTS since LAST (9999: never)")
    static void asManyNightsAsNever() {
        HalfAJoke x = Scenes.pair("laugh 5 when told=0;");
        x.evenings(1);
        Scenes.sleepTill(x, 9999);
        Check.text(x, "laugh 4 when told=1 and since=9999;");
        due("9999 nights since the first", x.laugh(0, 1), 4);
        x.undo();
        due("9998 nights", x.laugh(0, 1), 0);
    }

    @Says(promise = 19, sentence = "if they are of unlike FAMILIES without a FEUD, and one of them can tell the FRONT, the other one the END.")
    static void whoCanTell() {
        HalfAJoke x = Scenes.table("laugh 9;", 3, 0, 1, 2);
        due("unlike", x.telling(0, 3), 9);
        x.feud(1, 0, true);
        due("a feud", x.telling(0, 3), -1);
        x.feud(0, 1, false);
        due("none", x.telling(0, 3), 9);
        x.feud(0, 2, true);
        x.feud(1, 2, true);
        due("another one's feud", x.telling(0, 3), 9);
        x.give(0, 4, 0, 1);
        due("one has both", x.telling(0, 3), -1);
        x.give(0, 2, 1, 0);
        due("the other one has enough", x.telling(0, 3), 9);
        HalfAJoke y = Scenes.table("laugh 9;", 3, 0, 0);
        y.give(1, 4, 1, 0);
        due("alike", y.telling(0, 3), -1);
        HalfAJoke z = new HalfAJoke();
        z.half(1, 0, 0, 2);
        z.half(0, 0, 0, 0);
        for (int f : new int[] {0, 1, 0}) z.guest(f);
        for (int g = 0; g < 3; g++) z.seat(g, g);
        Check.text(z, "laugh 9;");
        due("a third one's end", z.telling(0, 3), -1);
        due("a third one's end", z.telling(1, 3), -1);
        z.seat(2, -1);
        z.guest(2);
        z.seat(3, 2);
        due("nobody's front", z.telling(1, 3), -1);
        z.seat(1, -1);
        z.seat(3, 1);
        due("beside him", z.telling(0, 3), 9);
    }

    @Says(promise = 19, sentence = "that with the greatest LAUGH, if that is above 0;")
    static void aLaughAboveZero() {
        HalfAJoke x = Scenes.pair("laugh 1;");
        due("one is enough", x.telling(0, 3), 1);
        due("one is told", x.evenings(1), 1);
        for (String law : new String[] {"laugh 0;", "laugh 0-5;", "", "laugh 5 when 1=2;"}) {
            Check.text(x, law);
            for (int what = 0; what < 4; what++) due("none by " + law, x.telling(0, what), -1);
        }
        due("none is told", x.evenings(1), 0);
        due("none is told", x.told(0, 1), 1);
        due("none is in the book", x.look(6), 1);
    }

    @Says(promise = 19, sentence = "of several that with the least FRONT, then END.")
    static void theLeastOfSeveral() {
        HalfAJoke x = new HalfAJoke();
        int[][] halves = {{1, 0}, {1, 1}, {0, 1}, {0, 0}, {1, 1}, {0, 0}};
        for (int[] h : halves) x.half(h[0], 0, 5, h[1]);
        x.guest(0);
        x.guest(1);
        x.seat(0, 0);
        x.seat(1, 1);
        Check.text(x, "laugh 9-told*5;");
        int[][] want = {{2, 0, 1}, {3, 1, 0}, {3, 4, 0}, {5, 1, 0}, {5, 4, 0}, {2, 0, 1}};
        for (int[] w : want) {
            for (int what = 0; what < 3; what++) due("what " + what, x.telling(0, what), w[what]);
            x.evenings(1);
        }
        Check.text(x, "laugh 9 when told=1;laugh 8;");
        due("the greatest first of all", x.telling(0, 0), 3);
    }

    @Says(promise = 19, sentence = "The GUEST at SEAT i sets it up, if he can (and the other one can end it); else the other one.")
    static void whoSetsItUp() {
        HalfAJoke x = Scenes.table("laugh 9;", 6, 1, 0);
        due("he can't: the other one", x.telling(0, 2), 1);
        x.give(0, 2, 0, 1);
        due("he can, but the other one can't end it", x.telling(0, 2), 1);
        x.give(1, 2, 1, 0);
        due("both can all: he", x.telling(0, 2), 0);
        x.evenings(1);
        due("who set it up", x.book(0, 2), 0);
        due("who ended it", x.book(0, 3), 1);
        x.give(1, 1, 1, 3);
        due("the other one can end it alone: he", x.telling(0, 2), 0);
        x.give(0, 1, 1, 3);
        due("he can do nothing", x.telling(0, 2), -1);
        HalfAJoke y = Scenes.table("laugh 9;", 6, 1, 0);
        y.give(1, 2, 1, 0);
        due("he can end it alone, though the other one can too", y.telling(0, 2), 1);
        y.evenings(1);
        due("who set it up", y.book(0, 2), 1);
        due("who ended it", y.book(0, 3), 0);
    }

    @Says(promise = 14, sentence = "SEAT by SEAT, 0 first, a TELLING, if there is one there then: TOLD is one more, LAST this NIGHT;")
    static void eachTellingAsItIsThen() {
        HalfAJoke x = Scenes.table("laugh 9-told*4;", 4, 0, 1, 0, 1);
        due("9, 5, 1, and nothing there then", x.evenings(1), 15);
        due("three lines", x.look(6), 3);
        due("told", x.told(0, 1), 3);
        int[] openers = {0, 2, 2};
        for (int i = 0; i < 3; i++) due("line " + i, x.book(i, 2), openers[i]);
        HalfAJoke y = Scenes.table("laugh 9 when since>0;", 4, 0, 1, 0, 1);
        due("once a night", y.evenings(1), 9);
        due("the next night again", y.evenings(1), 9);
        due("told", y.told(0, 1), 2);
    }

    @Says(promise = 14, sentence = "if SPOIL is above 0, a DRAW of 1000: below SPOIL it is SPOILT: its LAUGH is 0.")
    static void justBelowSpoil() {
        HalfAJoke x = Scenes.pair("laugh 9;");
        x.state(5);
        x.evenings(1);
        due("no draw by 0", x.look(7), 5);
        int draw = drawn(5);
        x.set(2, draw);
        x.state(5);
        due("a draw of SPOIL itself", x.evenings(1), 9);
        due("a draw", x.look(7), next(5));
        x.set(2, draw + 1);
        x.state(5);
        due("a draw of one less", x.evenings(1), 0);
        due("told all the same", x.told(0, 1), 3);
        due("in the book without a laugh", x.book(2, 5), 0);
        due("fame of two", x.fame(0), 2 * 9 * 4);
        x.set(2, 1);
        x.state(5);
        x.evenings(1);
        due("a draw by the least SPOIL", x.look(7), next(5));
        x.seat(0, -1);
        x.evenings(1);
        due("no draw without a telling", x.look(7), next(5));
    }

    @Says(promise = 20, sentence = "THE BOOK (100 lines; no more then)")
    static void theBookIsFull() {
        HalfAJoke x = Scenes.table("laugh 9;", 3, 0, 1, 0);
        due("98 of 2 each", x.evenings(49), 49 * 18);
        x.seat(2, -1);
        due("one", x.evenings(1), 9);
        due("99 lines", x.look(6), 99);
        x.seat(2, 2);
        due("two, of which one is written", x.evenings(1), 18);
        due("100 lines", x.look(6), 100);
        due("the last", x.book(99, 2), 0);
        due("none behind it", x.book(100, 2), -1);
        due("two more", x.evenings(1), 18);
        due("no more lines", x.look(6), 100);
        due("told goes on", x.told(0, 1), 103);
        due("fame goes on", x.fame(0), 103 * 9 * 4);
        due("the last stays", x.book(99, 4), 50);
        x.undo();
        due("still full", x.look(6), 100);
        due("told goes back", x.told(0, 1), 101);
        x.undo();
        due("99 lines", x.look(6), 99);
        due("none behind it", x.book(99, 2), -1);
        due("told goes back", x.told(0, 1), 99);
        due("fame goes back", x.fame(0), 99 * 9 * 4);
    }

    @Says(promise = 21, sentence = "FAME of each FAMILY: LAUGH times the QUARTERS that it has of both HALVES, added.")
    static void fameByQuarters() {
        HalfAJoke x = Scenes.pair("laugh 999;");
        x.give(0, 2, 0, 1);
        x.give(1, 1, 1, 5);
        x.evenings(1);
        int[] want = {2 * 999, 5 * 999, 0, 0, 0, 999};
        for (int f = 0; f < 6; f++) due("of " + f, x.fame(f), want[f]);
        x.set(2, 1000);
        x.evenings(1);
        for (int f = 0; f < 6; f++) due("a spoilt one adds nothing", x.fame(f), want[f]);
        HalfAJoke most = Scenes.table("laugh 999;", 8, 0, 1, 0, 1, 0, 1, 0, 1);
        most.give(0, 2, 0, 1);
        Scenes.sleepTill(most, 9999);
        due("the greatest", most.fame(1), 999 * 6 * 8 * 9999);
    }

    @Says(promise = 14, sentence = "Then NIGHT is one more.")
    static void aNightOfNothing() {
        HalfAJoke x = new HalfAJoke();
        due("nothing", x.evenings(1), 0);
        due("one more", x.look(5), 1);
        due("fifty", x.evenings(50), 0);
        due("fifty more", x.look(5), 51);
        HalfAJoke y = Scenes.table("laugh 9 when night=0;", 4, 0, 1, 0, 1);
        due("all of an evening on one night", y.evenings(2), 36);
    }

    @Says(promise = 22, sentence = "IN THOUGHT (nothing of it stays; no SPOIL).")
    static void nothingStays() {
        HalfAJoke x = Scenes.table("laugh 9-told;", 6, 0, 1, 2, 0);
        x.half(0, 0, 0, 2);
        x.set(2, 1000);
        x.evenings(1);
        String before = Scenes.view(x);
        due("merry", x.merry(), 16);
        x.fit(0);
        x.seating(0);
        x.change(0);
        x.like(0, 9);
        x.silent(0);
        x.worth(3, 10);
        x.away(0);
        x.uncle(0, 0);
        x.telling(0, 0);
        Scenes.unchanged(x, before);
        due("merry again", x.merry(), 16);
        due("no spoil in seating", x.seating(0) > 0, true);
        due("no spoil in uncle", x.uncle(5, 1), 16);
        due("all spoilt in truth", x.evenings(1), 0);
    }

    @Says(promise = 22, sentence = "LAUGHS of all TELLINGS of an EVENING now, added (each as TOLD is then).")
    static void merryAsToldIsThen() {
        HalfAJoke x = Scenes.table("laugh 9-told*4;", 4, 0, 1, 0, 1);
        due("9, 5, 1 and none", x.merry(), 15);
        due("so it is", x.evenings(1), 15);
        due("none any more", x.merry(), 0);
        HalfAJoke y = Scenes.table("laugh 9 when since>0;laugh 2 when since=0;", 4, 0, 1, 0, 1);
        for (int night = 0; night < 3; night++) {
            due("no night since, once told", y.merry(), 9 + 2 + 2 + 2);
            due("so it is", y.evenings(1), 9 + 2 + 2 + 2);
        }
        HalfAJoke late = Scenes.table("", 4, 0, 1, 0, 1);
        late.evenings(3);
        Check.text(late, "laugh 9 when since>3;laugh 2 when since=0;");
        due("never till then", late.merry(), 9 + 2 + 2 + 2);
        due("so it is", late.evenings(1), 9 + 2 + 2 + 2);
    }

    @Says(promise = 23, sentence = "each FRONT with one END at most, each END once at most (8 of each at most): the greatest sum of LAUGHS;")
    static void theGreatestSum() {
        HalfAJoke x = Scenes.wits("laugh front*end;", new int[] {9, 1}, new int[] {9, 8});
        due("one end each", x.fit(0), 81 + 8);
        HalfAJoke greedy = Scenes.wits("laugh 9 when front=end; laugh 8 when front=1; laugh 8 when end=1;", new int[] {1, 2}, new int[] {1, 3});
        due("not the greatest first", greedy.fit(0), 16);
        due("so crosswise", greedy.fit(10), 3);
        HalfAJoke one = Scenes.wits("laugh front;", new int[] {3, 9, 4}, new int[] {1});
        due("one end once", one.fit(0), 9);
        due("of the greatest", one.fit(13), 1);
        due("none", one.fit(10), -1);
        due("none", one.fit(12), -1);
        int[] eight = {1, 2, 3, 4, 5, 6, 7, 8};
        due("eight of each", Scenes.wits("laugh front*end;", eight, eight).fit(0), 204);
        HalfAJoke now = Scenes.pair("laugh 9-told*2 when not told=1;laugh 4;");
        for (int want : new int[] {9, 4, 5}) {
            due("as it was told", now.fit(0), want);
            now.evenings(1);
        }
    }

    @Says(promise = 23, sentence = "of several such ways that by which the least FRONT has the least partner (none last), then the next one.")
    static void theLeastPartners() {
        HalfAJoke x = Scenes.wits("", new int[] {1, 1, 1}, new int[] {1, 1});
        int[] want = {3, 4, -1, 0, 1};
        for (int h = 0; h < 5; h++) due("without a laugh, half " + h, x.fit(10 + h), want[h]);
        Check.text(x, "laugh 5;");
        for (int h = 0; h < 5; h++) due("with laughs, half " + h, x.fit(10 + h), want[h]);
        HalfAJoke y = Scenes.wits("laugh 5 when front=2 and end=1;", new int[] {1, 2, 3}, new int[] {1, 2, 3});
        int[] wantThen = {4, 3, 5, 1, 0, 2};
        for (int h = 0; h < 6; h++) due("the least that leaves the sum, half " + h, y.fit(10 + h), wantThen[h]);
        HalfAJoke few = Scenes.wits("", new int[] {1}, new int[] {1, 1, 1});
        int[] wantOfFew = {1, 0, -1, -1};
        for (int h = 0; h < 4; h++) due("ends without a front, half " + h, few.fit(10 + h), wantOfFew[h]);
        HalfAJoke z = Scenes.wits("laugh front;", new int[] {1, 5, 5}, new int[] {0, 0});
        due("none, for the sum", z.fit(10), -1);
        due("the next one has the least", z.fit(11), 3);
    }

    @Says(promise = 24, sentence = "all GUESTS (7 at most) on SEATS 0 .. n - 1 of a TABLE of n SEATS (n as many as there are, 3 at least), GUEST 0 on SEAT 0")
    static void allGuestsInARound() {
        HalfAJoke x = Scenes.halves("laugh 9;");
        x.set(0, 8);
        for (int f : new int[] {0, 1, 2}) x.guest(f);
        due("three, who all stand", x.seating(0), 9);
        x.feud(0, 1, true);
        due("none who laugh", x.seating(0), 0);
        x.feud(0, 1, false);
        for (int f : new int[] {0, 1, 0, 1}) x.guest(f);
        due("seven in a round", x.seating(0), 9 * 5);
        due("guest 0", x.seating(10), 0);
        int all = 0;
        for (int i = 0; i < 7; i++) all |= 1 << x.seating(10 + i);
        due("each once", all, 127);
        due("nobody has come to the table", x.merry(), 0);
    }

    @Says(promise = 24, sentence = "the most MERRY; the first row of GUESTS with it.")
    static void theFirstRow() {
        HalfAJoke x = Scenes.table("laugh 9;", 8, 2, 0, 3, 1, 4);
        due("the two beside one another", x.seating(0), 9);
        int[] want = {0, 1, 3, 2, 4};
        for (int i = 0; i < 5; i++) due("seat " + i, x.seating(10 + i), want[i]);
        HalfAJoke y = Scenes.table("laugh 9;", 8, 0, 2, 1, 3);
        int[] wantRound = {0, 1, 3, 2};
        for (int i = 0; i < 4; i++) due("round the table, seat " + i, y.seating(10 + i), wantRound[i]);
        HalfAJoke z = Scenes.table("laugh 90-told*7;", 6, 0, 0, 0, 1, 1, 1);
        int[] byTurns = {0, 3, 1, 4, 2, 5};
        for (int again = 0; again < 2; again++) {
            due("each as told is then", z.seating(0), 90 + 83 + 76 + 69 + 62 + 55);
            for (int i = 0; i < 6; i++) due("by turns, seat " + i, z.seating(10 + i), byTurns[i]);
            due("nothing stays", z.merry(), 90 + 83);
        }
        HalfAJoke once = Scenes.table("laugh 1 when told=0;", 6, 0, 0, 1, 1);
        due("one laugh", once.seating(0), 1);
        due("nothing stays of one", once.merry(), 1);
    }

    @Says(promise = 25, sentence = "CHANGE of two GUESTS that sit: by which two MERRY is greatest, and by how much more than now (above 0, else none);")
    static void theGreatestChange() {
        HalfAJoke x = Scenes.table("laugh end;", 6, 0, 3, 1, 3, 2, 3);
        x.half(1, 0, 90, 2);
        due("the lesser", x.change(0), 0);
        due("the other", x.change(1), 3);
        due("by how much", x.change(2), 110);
        HalfAJoke none = Scenes.table("laugh 9;", 6, 0, 1, 0, 1, 0, 1);
        for (int what = 0; what < 3; what++) due("none is above", none.change(what), -1);
        HalfAJoke stands = Scenes.table("laugh 9;", 6, 0, 2, 1);
        due("who sits", stands.change(2), 9);
        stands.seat(1, -1);
        due("who stands changes with nobody", stands.change(2), -1);
        HalfAJoke more = Scenes.table("laugh 9;", 6, 0, 1, 2, 0, 4, 1);
        due("more than now, not all", more.change(2), 9);
        HalfAJoke then = Scenes.table("laugh 9-told*4;", 4, 0, 0, 1, 1);
        due("each as told is then", then.change(2), 9 + 5 + 1 - 9 - 5);
        due("the lesser", then.change(0), 0);
        due("the other", then.change(1), 3);
    }

    @Says(promise = 25, sentence = "of several the lesser one, then the other.")
    static void theLesserOfSeveralChanges() {
        HalfAJoke x = Scenes.table("laugh 9;", 6, 0, 2, 2, 1, 2, 2);
        due("the lesser", x.change(0), 0);
        due("the other", x.change(1), 2);
        due("by how much", x.change(2), 9);
        HalfAJoke y = Scenes.table("laugh 9;", 6, 2, 0, 2, 2, 1, 2);
        due("the lesser", y.change(0), 0);
        due("the other", y.change(1), 4);
    }

    @Says(promise = 26, sentence = "the HALVES, FRONTS or ENDS as it is, not it, whose WIT is at most m apart from its")
    static void atMostSoFarApart() {
        HalfAJoke x = new HalfAJoke();
        int[][] halves = {{0, 50, 0}, {0, 43, 1}, {0, 57, 2}, {0, 42, 3}, {0, 58, 4}, {1, 50, 5}, {0, 50, 5}};
        for (int[] h : halves) x.half(h[0], 0, h[1], h[2]);
        due("7 apart", x.like(0, 7), 2 | 4 | 64);
        due("6 apart", x.like(0, 6), 64);
        due("8 apart", x.like(0, 8), 2 | 4 | 8 | 16 | 64);
        due("none apart", x.like(0, 0), 64);
        due("an end alone", x.like(5, 99), 0);
    }

    @Says(promise = 26, sentence = "of which some FAMILY has a QUARTER that has none of it.")
    static void someFamilyThatHasNoneOfIt() {
        HalfAJoke x = new HalfAJoke();
        x.half(0, 0, 5, 0);
        x.half(0, 0, 5, 0);
        due("one family's", x.like(0, 0), 0);
        x.give(1, 1, 0, 5);
        due("one quarter is enough", x.like(0, 0), 2);
        due("not the other way", x.like(1, 0), 0);
        x.give(0, 1, 0, 5);
        due("it has one of it too", x.like(0, 0), 0);
        x.give(0, 3, 0, 4);
        due("the one has none", x.like(0, 0), 2);
        due("the other has none", x.like(1, 0), 1);
    }

    @Says(promise = 27, sentence = "the FAMILIES (not it) with which it has a FEUD, or no FRONT and END that one can tell and the other one end have a LAUGH above 0.")
    static void silentFamilies() {
        HalfAJoke x = Scenes.halves("laugh 1;");
        due("one above 0", x.silent(0), 60);
        due("the other way", x.silent(1), 60);
        due("not it, though it is silent", x.silent(2), 59);
        x.feud(0, 1, true);
        due("a feud", x.silent(0), 62);
        x.feud(0, 1, false);
        Check.text(x, "laugh 0;");
        due("none above 0", x.silent(1), 61);
        Check.text(x, "laugh 1;");
        x.give(0, 2, 0, 5);
        due("just enough each", x.silent(1), 63 - 1 - 2 - 32);
        x.give(0, 1, 5, 4);
        due("one less than enough", x.silent(1), 60);
        x.give(1, 2, 1, 0);
        due("both have both", x.silent(0), 60);
        due("one alone has both", x.silent(4), 47);
    }

    @Says(promise = 28, sentence = "at first WIT; behind each round that of each HALF the greatest of LAUGH with one of the other kind less WORTH of that one ahead of the round (0 at least, and without any);")
    static void worthsOfOneRound() {
        HalfAJoke x = Scenes.wits("laugh front+end when front>1;", new int[] {5, 1}, new int[] {2, 40});
        int[] wits = {5, 1, 2, 40};
        int[] behindOne = {5, 0, 2, 40};
        for (int h = 0; h < 4; h++) {
            due("wit of " + h, x.worth(0, 10 + h), wits[h]);
            due("behind one, of " + h, x.worth(1, 10 + h), behindOne[h]);
        }
        Check.text(x, "laugh 4;");
        int[] zeroAtLeast = {2, 2, 3, 3};
        for (int h = 0; h < 4; h++) due("the greatest, of " + h, x.worth(1, 10 + h), zeroAtLeast[h]);
        Check.text(x, "laugh 1;");
        int[] none = {0, 0, 0, 0};
        for (int h = 0; h < 4; h++) due("0 at least, of " + h, x.worth(1, 10 + h), none[h]);
        HalfAJoke fronts = Scenes.wits("laugh 9;", new int[] {5, 99}, new int[] {});
        due("without any", fronts.worth(1, 10), 0);
        due("without any", fronts.worth(1, 11), 0);
        HalfAJoke endFirst = new HalfAJoke();
        endFirst.half(1, 0, 20, 0);
        endFirst.half(0, 0, 10, 0);
        Check.text(endFirst, "laugh 35;");
        due("of an end that came first", endFirst.worth(1, 10), 25);
        due("of a front behind it", endFirst.worth(1, 11), 15);
    }

    @Says(promise = 28, sentence = "the greatest of LAUGH with one of the other kind")
    static void worthsOfAnotherKindThanBefore() {
        HalfAJoke x = Scenes.wits("laugh 99;", new int[] {5}, new int[] {});
        x.image(true);
        x.half(1, 0, 7, 0);
        due("with an end", x.worth(1, 10), 92);
        x.image(false);
        x.half(0, 0, 7, 0);
        due("without any", x.worth(1, 10), 0);
        due("without any", x.worth(1, 11), 0);
    }

    @Says(promise = 28, sentence = "40 rounds at most: behind how many nothing changed any more (the round that changed nothing not counted), or the length of the circle;")
    static void roundsThatSettle() {
        HalfAJoke none = new HalfAJoke();
        due("no halves", none.worth(0, 0), 0);
        due("no circle", none.worth(0, 1), 0);
        HalfAJoke still = Scenes.wits("laugh 9;", new int[] {4}, new int[] {5});
        due("nothing changed at once", still.worth(0, 0), 0);
        HalfAJoke once = Scenes.wits("laugh 9;", new int[] {4}, new int[] {});
        due("one round, then nothing", once.worth(0, 0), 1);
        HalfAJoke zero = Scenes.wits("laugh 9;", new int[] {0}, new int[] {});
        due("nothing from nothing", zero.worth(0, 0), 0);
        HalfAJoke late = Scenes.wits("laugh 9;", new int[] {20}, new int[] {30});
        due("a circle begun behind one round", late.worth(0, 0), -1);
        due("its length", late.worth(0, 1), 2);
        due("round 40 as round 2", late.worth(40, 10), late.worth(2, 10));
        due("round 39 as round 1", late.worth(39, 10), late.worth(1, 10));
        HalfAJoke now = Scenes.pair("laugh 30 when told=1;laugh 25;");
        for (int want : new int[] {-1, 0, -1}) {
            due("as it was told", now.worth(0, 0), want);
            now.evenings(1);
        }
    }

    @Says(promise = 29, sentence = "GUESTS that sit without whom (each alone, his SEAT empty) MERRY would be just v, as a set.")
    static void hisSeatEmpty() {
        HalfAJoke x = Scenes.table("laugh 9;", 4, 0, 1, 0, 2);
        due("now", x.merry(), 18);
        due("without either end", x.away(9), 1 | 4);
        due("without the middle", x.away(0), 2);
        due("without who tells nothing", x.away(18), 8);
        due("not about", x.away(17), 0);
        HalfAJoke empty = Scenes.table("laugh 9;", 3, 0, 2, 1);
        due("nobody comes closer", empty.away(9), 2);
        HalfAJoke y = Scenes.table("laugh 9-told*4;", 3, 0, 1, 0);
        due("as told is then", y.away(9), 1 | 4);
        due("nothing stays", y.merry(), 14);
        HalfAJoke four = Scenes.table("laugh 9-told*4;", 4, 0, 1, 0, 1);
        due("each alone", four.away(14), 15);
        HalfAJoke once = Scenes.table("laugh 9 when told=0 and since=9999;", 4, 0, 1, 0, 1);
        due("each alone, once", once.away(9), 15);
        due("nothing stays", once.merry(), 9);
        y.seat(2, -1);
        due("who stands is not asked", y.away(9), 0);
    }

    @Says(promise = 30, sentence = "one FAMILY's QUARTERS all to another FAMILY: to which, so that MERRY is greatest; of several the least.")
    static void theLeastHeir() {
        HalfAJoke x = Scenes.table("laugh 9;", 8, 1, 2, 5, 1);
        due("2 or 5: the least", x.uncle(0, 0), 2);
        due("merry then", x.uncle(0, 1), 9);
        x.give(0, 1, 0, 4);
        x.set(1, 4);
        due("not all four", x.uncle(0, 1), 0);
        due("all the same: the least", x.uncle(0, 0), 1);
        x.give(0, 1, 4, 5);
        due("three and one", x.uncle(0, 0), 5);
        due("merry then", x.uncle(0, 1), 9);
        due("of one without any", x.uncle(3, 0), 0);
        HalfAJoke y = Scenes.pair("laugh 9;");
        due("he himself can't tell then", y.uncle(0, 1), 0);
        due("to the least that is not he", y.uncle(0, 0), 1);
    }

    @Says(promise = 31, sentence = "the latest EVENING not undone yet goes back (TOLD, LAST, FAME, THE BOOK, NIGHT, STATE)")
    static void allOfAnEveningGoesBack() {
        HalfAJoke x = Scenes.table("laugh 9 when told=0; laugh since+1;", 3, 0, 1, 0);
        x.set(2, 300);
        x.state(-5);
        String[] views = new String[4];
        for (int i = 0; i < 4; i++) {
            views[i] = Scenes.view(x);
            x.evenings(1);
        }
        for (int i = 3; i >= 0; i--) {
            due("undo", x.undo(), true);
            Check.due("as it was", Scenes.view(x), withUndo(views[i], i));
        }
        due("nothing is left", x.undo(), false);
    }

    @Says(promise = 31, sentence = "the latest EVENING not undone yet goes back (TOLD, LAST, FAME, THE BOOK, NIGHT, STATE)")
    static void aFullTableGoesBack() {
        HalfAJoke x = Scenes.table("laugh 9 when night<6;laugh 9 when since>0;", 8, 0, 1, 0, 1, 0, 1, 0, 1);
        due("six evenings of eight", x.evenings(6), 6 * 8 * 9);
        due("six of one", x.evenings(6), 6 * 9);
        due("told", x.told(0, 1), 54);
        for (int i = 1; i <= 6; i++) {
            due("undo", x.undo(), true);
            due("told", x.told(0, 1), 54 - i);
        }
        x.evenings(1);
        x.undo();
        due("told", x.told(0, 1), 48);
        HalfAJoke y = Scenes.table("laugh 9;", 8, 0, 1, 0, 1, 0, 1, 0, 1);
        y.evenings(7);
        for (int i = 6; i >= 1; i--) {
            y.undo();
            due("told", y.told(0, 1), 8 * i);
            due("lines", y.look(6), 8 * i);
            due("fame", y.fame(1), 8 * i * 9 * 4);
        }
    }

    @Says(promise = 31, sentence = "the latest EVENING not undone yet goes back (TOLD, LAST, FAME, THE BOOK, NIGHT, STATE)")
    static void lastOfEachPairGoesBack() {
        HalfAJoke x = Scenes.table("", 6, 0, 1, 2);
        x.half(0, 0, 0, 2);
        x.evenings(2);
        Check.text(x, "laugh 9 when night=2;laugh 8 when night=4;laugh 7 when night=4+front/10;");
        x.evenings(4);
        Check.text(x, "laugh since;");
        due("both told on nights 2 and 4, the first on night 5", x.laugh(0, 1) * 10 + x.laugh(2, 1), 12);
        x.undo();
        due("the last night but one", x.laugh(0, 1) * 10 + x.laugh(2, 1), 11);
        x.undo();
        due("both on night 2", x.laugh(0, 1) * 10 + x.laugh(2, 1), 22);
        x.undo();
        due("both on night 2", x.laugh(0, 1) * 10 + x.laugh(2, 1), 11);
        x.undo();
        due("never: 9999, held to 999", x.laugh(0, 1) + x.laugh(2, 1), 999 * 2);
    }

    @Says(promise = 31, sentence = "6 are kept;")
    static void sixAreKept() {
        HalfAJoke x = Scenes.pair("laugh 9;");
        x.evenings(50);
        for (int i = 1; i <= 6; i++) {
            due("undo", x.undo(), true);
            due("night", x.look(5), 50 - i);
            due("told", x.told(0, 1), 50 - i);
            due("lines", x.look(6), 50 - i);
            due("fame", x.fame(0), 36 * (50 - i));
        }
        due("the seventh", x.undo(), false);
        due("night", x.look(5), 44);
        x.evenings(5);
        due("five", x.look(9), 5);
        x.evenings(1);
        x.evenings(1);
        due("six", x.look(9), 6);
        for (int i = 0; i < 6; i++) due("undo", x.undo(), true);
        due("the seventh", x.undo(), false);
        due("night", x.look(5), 45);
    }

    private static void tell(HalfAJoke x, int which) {
        switch (which) {
            case 0 -> x.state(1);
            case 1 -> x.half(0, 0, 0, 0);
            case 2 -> x.give(0, 1, 0, 1);
            case 3 -> x.heirs(0, 2);
            case 4 -> x.feud(2, 3, true);
            case 5 -> x.guest(0);
            case 6 -> x.seat(0, 3);
            case 7 -> x.set(0, 4);
            case 8 -> x.set(1, 1);
            default -> x.set(2, 1);
        }
    }

    @Says(promise = 31, sentence = "whatever else is told but texts forgets them.")
    static void whatIsToldForgetsThem() {
        for (int which = 0; which < 10; which++) {
            HalfAJoke x = Scenes.pair("laugh 9;");
            x.evenings(3);
            tell(x, which);
            due("forgotten by " + which, x.look(9), 0);
            due("nothing to undo", x.undo(), false);
            due("the nights stay", x.look(5), 3);
            due("told stays", x.told(0, 1), 3);
        }
    }

    @Says(promise = 31, sentence = "whatever else is told but texts forgets them.")
    static void textsForgetNothing() {
        HalfAJoke x = Scenes.pair("laugh 9;");
        x.evenings(3);
        x.feed(0, 0, 0, 0, 0);
        x.end(3);
        due("a wrong text", x.text(), -1);
        due("a text", Check.text(x, "laugh 5;"), 1);
        due("three", x.look(9), 3);
        for (int i = 2; i >= 0; i--) {
            due("undo", x.undo(), true);
            due("night", x.look(5), i);
        }
        due("the law stays", x.laugh(0, 1), 5);
    }

    /** Some of each, so that an image of it misses nothing. */
    private static HalfAJoke toBeTaken() {
        HalfAJoke x = Scenes.table("laugh 90-told*5+since*10 when since<9;laugh 40;", 5, 0, 1, 2);
        x.set(2, 300);
        x.feud(4, 5, true);
        x.evenings(3);
        return x;
    }

    /** The view, with another number of what can be undone. */
    private static String withUndo(String view, int n) {
        return view.replaceFirst("^(look( -?\\d+){9}) -?\\d+", "$1 " + n);
    }

    @Says(promise = 32, sentence = "all that is and was told but the TAPE, fault() and what can be undone (nothing then), as it was when it was taken;")
    static void allAsItWasWhenTaken() {
        HalfAJoke x = toBeTaken();
        due("taken", x.image(true), true);
        due("what can be undone stays now", x.look(9), 3);
        String view = Scenes.view(x);
        x.evenings(4);
        for (int which = 0; which < 10; which++) tell(x, which);
        x.evenings(1);
        Check.text(x, "laugh 3;");
        due("gone back to", x.image(false), true);
        Check.due("as it was", Scenes.view(x), withUndo(view, 0));
        due("nothing can be undone then", x.undo(), false);
    }

    @Says(promise = 32, sentence = "all that is and was told but the TAPE, fault() and what can be undone (nothing then), as it was when it was taken;")
    static void theTapeAndTheFaultStay() {
        HalfAJoke x = toBeTaken();
        x.image(true);
        Check.text(x, "laugh 1/0;");
        x.feed(0x6c617567, 0x6820373b, 0x20202020, 0x20202020, 0x20202020);
        due("gone back to", x.image(false), true);
        due("the fault stays", x.fault(0), 2);
        due("its place stays", x.fault(1), 8);
        due("the tape stays", x.text(), 1);
        due("and is read", x.laugh(0, 1), 7);
    }

    @Says(promise = 32, sentence = "all that is and was told but the TAPE, fault() and what can be undone (nothing then), as it was when it was taken;")
    static void theBookAsItWasWhenTaken() {
        HalfAJoke x = Scenes.pair("laugh 9;");
        x.evenings(6);
        x.image(true);
        for (int i = 0; i < 6; i++) x.undo();
        due("no lines", x.look(6), 0);
        x.evenings(2);
        Check.text(x, "laugh 5;");
        x.evenings(3);
        due("other lines", x.book(4, 5), 5);
        x.image(false);
        due("six lines", x.look(6), 6);
        for (int i = 0; i < 6; i++) {
            due("laugh of line " + i, x.book(i, 5), 9);
            due("night of line " + i, x.book(i, 4), i);
        }
        due("since the last", sinceBy(x), 1);
    }

    private static int sinceBy(HalfAJoke x) {
        Check.text(x, "laugh since;");
        return x.laugh(0, 1);
    }

    @Says(promise = 32, sentence = "all that is and was told but the TAPE, fault() and what can be undone (nothing then), as it was when it was taken;")
    static void theLastOfAllAsItWas() {
        HalfAJoke x = new HalfAJoke();
        x.set(0, 8);
        for (int i = 0; i < 16; i++) x.half(i / 8, 0, i, 5);
        for (int i = 0; i < 8; i++) x.guest(5);
        x.seat(7, 7);
        x.feud(5, 4, true);
        x.image(true);
        x.give(15, 4, 5, 0);
        x.seat(7, 0);
        x.feud(5, 4, false);
        x.image(false);
        due("the last half", x.of(15, 15), 4);
        due("the last guest", x.who(7, 1), 7);
        due("the last seat", x.look(17), 7);
        due("the first seat", x.look(10), -1);
        due("the last feud", x.look(25), 16);
    }

    @Says(promise = 32, sentence = "gone back to it may be more than once.")
    static void goneBackToMoreThanOnce() {
        HalfAJoke x = Scenes.pair("laugh 9-told;");
        x.image(true);
        for (int i = 0; i < 3; i++) {
            x.evenings(2);
            x.give(0, 4, 0, 5);
            due("gone back to", x.image(false), true);
            due("night", x.look(5), 0);
            due("told", x.told(0, 1), 0);
            due("quarters", x.of(0, 10), 4);
            due("gone back to at once", x.image(false), true);
        }
        x.evenings(1);
        due("taken anew", x.image(true), true);
        x.evenings(1);
        due("gone back to", x.image(false), true);
        due("the newer one", x.look(5), 1);
    }

    public static void main(String[] args) throws Exception {
        Sentences.run(BoundsOfTermsTest.class, args);
        Check.finish();
    }
}
