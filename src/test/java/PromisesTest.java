/** Each promise by itself: ordinary inputs, the edges that the document names, and wrong inputs. */
public final class PromisesTest {
    private static final int[] FAR = {Integer.MIN_VALUE, Integer.MIN_VALUE + 9, Integer.MIN_VALUE + 10, -2, Integer.MAX_VALUE};

    private static void due(String what, int got, int want) {
        Check.due(what, got, want);
    }

    private static void due(String what, boolean got, boolean want) {
        Check.due(what, got, want);
    }

    /** FRONT 0 of FAMILY 0 and END 1 of FAMILY 1 beside one another, each LAUGH by the law. */
    private static HalfAJoke pair(String law) {
        HalfAJoke x = new HalfAJoke();
        x.half(0, 3, 10, 0);
        x.half(1, 3, 20, 1);
        x.guest(0);
        x.guest(1);
        x.seat(0, 0);
        x.seat(1, 1);
        Check.text(x, law);
        return x;
    }

    private static void aNewObject() {
        HalfAJoke x = new HalfAJoke();
        int[] plain = {6, 2, 0, 0, 0, 0, 0, 0, 0, 0};
        for (int i = 0; i < 10; i++) due("look " + i, x.look(i), plain[i]);
        for (int i = 0; i < 8; i++) due("seat " + i, x.look(10 + i), -1);
        for (int f = 0; f < 6; f++) {
            due("feuds", x.look(20 + f), 0);
            due("fame", x.fame(f), 0);
            due("silent", x.silent(f), 63 - (1 << f));
        }
        due("undo", x.undo(), false);
        due("image", x.image(false), false);
    }

    private static void state() {
        HalfAJoke x = new HalfAJoke();
        due("at first", x.state(5), 0);
        due("then", x.state(Integer.MIN_VALUE), 5);
        due("then", x.look(7), Integer.MIN_VALUE);
        x.evenings(1);
        due("no draw without a telling", x.look(7), Integer.MIN_VALUE);
        x.state(0);
        due("forgets", x.look(9), 0);
    }

    private static void half() {
        HalfAJoke x = new HalfAJoke();
        int[][] wrong = {{-1, 0, 0, 0}, {2, 0, 0, 0}, {0, -1, 0, 0}, {0, 10, 0, 0}, {0, 0, -1, 0}, {0, 0, 100, 0}, {0, 0, 0, -1}, {0, 0, 0, 6}};
        for (int[] w : wrong) due("half", x.half(w[0], w[1], w[2], w[3]), -1);
        x.evenings(1);
        x.half(2, 0, 0, 0);
        due("a wrong one forgets nothing", x.look(9), 1);
        for (int i = 0; i < 16; i++) due("half", x.half(i % 2, i % 10, 99 - i, i % 6), i);
        due("forgets", x.look(9), 0);
        due("the 17th", x.half(0, 0, 0, 0), -1);
        due("how many", x.look(3), 16);
        due("the highest", new HalfAJoke().half(1, 9, 99, 5), 0);
    }

    private static void of() {
        HalfAJoke x = new HalfAJoke();
        x.half(1, 9, 99, 5);
        due("side", x.of(0, 0), 1);
        due("joke", x.of(0, 1), 9);
        due("wit", x.of(0, 2), 99);
        for (int what = 3; what < 10; what++) due("of", x.of(0, what), -1);
        for (int f = 0; f < 6; f++) due("quarters", x.of(0, 10 + f), f == 5 ? 4 : 0);
        due("of 16", x.of(0, 16), -1);
        due("of -1", x.of(0, -1), -1);
        due("no half", x.of(1, 0), -1);
        due("no half", x.of(-1, 0), -1);
        for (int far : FAR) {
            due("far", x.of(far, 0), -1);
            due("far", x.of(0, far), -1);
        }
    }

    private static void give() {
        HalfAJoke x = new HalfAJoke();
        x.half(0, 0, 0, 2);
        due("give", x.give(0, 3, 2, 4), true);
        due("left", x.of(0, 12), 1);
        due("came", x.of(0, 14), 3);
        int[][] wrong = {{0, 2, 2, 4}, {0, 0, 2, 4}, {0, -1, 4, 2}, {0, 1, 2, 2}, {1, 1, 2, 4}, {-1, 1, 2, 4}, {0, 1, -1, 4}, {0, 1, 6, 4},
            {0, 1, 2, 6}, {0, 1, 2, -1}, {0, 1, 0, 1}, {0, Integer.MIN_VALUE, 2, 4}, {0, Integer.MAX_VALUE, 2, 4}};
        x.evenings(1);
        for (int[] w : wrong) due("give", x.give(w[0], w[1], w[2], w[3]), false);
        due("forgets nothing", x.look(9), 1);
        due("left", x.of(0, 12), 1);
        due("all", x.give(0, 3, 4, 0), true);
        due("forgets", x.look(9), 0);
        due("none left", x.of(0, 14), 0);
        due("come", x.of(0, 10), 3);
    }

    private static void heirs() {
        HalfAJoke x = new HalfAJoke();
        x.half(0, 0, 0, 1);
        x.half(1, 0, 0, 1);
        x.half(0, 0, 0, 3);
        x.give(1, 1, 1, 3);
        x.evenings(1);
        int[][] wrong = {{1, 0}, {1, 2}, {1, 3}, {1, 64}, {1, 65}, {1, -1}, {6, 1}, {-1, 1}, {1, Integer.MIN_VALUE}, {1, 63}};
        for (int[] w : wrong) due("heirs", x.heirs(w[0], w[1]), -1);
        due("forgets nothing", x.look(9), 1);
        due("heirs", x.heirs(1, 1 | 8 | 16), 7);
        due("forgets", x.look(9), 0);
        int[][] want = {{2, 0, 0, 1, 1, 0}, {1, 0, 0, 2, 1, 0}, {0, 0, 0, 4, 0, 0}};
        for (int h = 0; h < 3; h++) for (int f = 0; f < 6; f++) due("quarters", x.of(h, 10 + f), want[h][f]);
        due("nothing to leave", x.heirs(5, 1), 0);
        due("to one", x.heirs(3, 32), 7);
        due("all of it", x.of(2, 15), 4);
    }

    private static void feud() {
        HalfAJoke x = pair("laugh 5;");
        due("before", x.telling(0, 3), 5);
        due("feud", x.feud(1, 0, true), true);
        due("told by both", x.look(20), 2);
        due("told by both", x.look(21), 1);
        due("nothing told", x.telling(0, 3), -1);
        due("again", x.feud(0, 1, true), true);
        due("another", x.feud(0, 5, true), true);
        due("a set", x.look(20), 34);
        due("none", x.feud(0, 1, false), true);
        due("the other stays", x.look(20), 32);
        due("told again", x.telling(0, 3), 5);
        due("none where none is", x.feud(2, 3, false), true);
        x.evenings(1);
        int[][] wrong = {{0, 0}, {-1, 0}, {0, -1}, {6, 0}, {0, 6}, {Integer.MIN_VALUE, Integer.MAX_VALUE}};
        for (int[] w : wrong) due("feud", x.feud(w[0], w[1], true), false);
        due("forgets nothing", x.look(9), 1);
        x.feud(2, 3, false);
        due("forgets", x.look(9), 0);
    }

    private static void guest() {
        HalfAJoke x = new HalfAJoke();
        x.evenings(1);
        due("below", x.guest(-1), -1);
        due("above", x.guest(6), -1);
        due("forgets nothing", x.look(9), 1);
        for (int i = 0; i < 8; i++) due("guest", x.guest(i % 6), i);
        due("forgets", x.look(9), 0);
        due("the ninth", x.guest(0), -1);
        due("how many", x.look(4), 8);
        due("family", x.who(7, 0), 1);
        due("stands", x.who(7, 1), -1);
        due("no guest", new HalfAJoke().who(0, 1), -2);
        due("none such", x.who(8, 0), -2);
        due("none such", x.who(-1, 0), -2);
        due("another what", x.who(0, 2), -2);
        due("another what", x.who(0, -1), -2);
    }

    private static void seat() {
        HalfAJoke x = new HalfAJoke();
        x.guest(0);
        x.guest(1);
        due("seat", x.seat(0, 5), true);
        due("his own", x.seat(0, 5), true);
        due("taken", x.seat(1, 5), false);
        due("who", x.look(15), 0);
        due("moves", x.seat(0, 4), true);
        due("left empty", x.look(15), -1);
        due("sits", x.who(0, 1), 4);
        due("now empty", x.seat(1, 5), true);
        due("stands up", x.seat(0, -1), true);
        due("stands still", x.seat(0, -1), true);
        due("stands", x.who(0, 1), -1);
        due("left empty", x.look(14), -1);
        x.evenings(1);
        int[][] wrong = {{0, 6}, {0, -2}, {2, 0}, {-1, 0}, {0, 5}, {2, -1}, {0, Integer.MAX_VALUE}, {Integer.MIN_VALUE, 0}};
        for (int[] w : wrong) due("seat", x.seat(w[0], w[1]), false);
        due("forgets nothing", x.look(9), 1);
        x.seat(1, 5);
        due("forgets", x.look(9), 0);
    }

    private static void set() {
        HalfAJoke x = pair("laugh 5;");
        x.evenings(1);
        int[][] wrong = {{0, 2}, {0, 9}, {1, 0}, {1, 5}, {2, -1}, {2, 1001}, {3, 3}, {-1, 3}};
        for (int[] w : wrong) due("set", x.set(w[0], w[1]), false);
        due("forgets nothing", x.look(9), 1);
        due("N anew", x.set(0, 6), true);
        due("forgets", x.look(9), 0);
        due("empty", x.look(10), -1);
        due("empty", x.look(11), -1);
        due("stands", x.who(1, 1), -1);
        for (int n = 3; n <= 8; n++) {
            due("N", x.set(0, n), true);
            due("N", x.look(0), n);
            due("last seat", x.seat(0, n - 1), true);
            due("no seat", x.seat(0, n), false);
            due("round", x.seat(1, 0), true);
            due("beside", x.telling(n - 1, 3), 5);
        }
        for (int need = 1; need <= 4; need++) {
            due("NEED", x.set(1, need), true);
            due("NEED", x.look(1), need);
            due("all four", x.telling(7, 3), 5);
        }
        x.give(0, 1, 0, 4);
        due("three of four", x.telling(7, 3), -1);
        x.set(1, 3);
        due("three of three", x.telling(7, 3), 5);
        due("SPOIL", x.set(2, 1000), true);
        due("SPOIL", x.look(2), 1000);
        due("SPOIL", x.set(2, 0), true);
    }

    private static void evenings() {
        HalfAJoke x = pair("laugh 50-told*20;");
        for (int n : new int[] {0, -1, 51, Integer.MIN_VALUE, Integer.MAX_VALUE}) due("evenings", x.evenings(n), -1);
        due("nothing is done", x.look(5), 0);
        due("three", x.evenings(3), 90);
        due("told till nobody laughs", x.told(0, 1), 3);
        due("fame", x.fame(0), 360);
        due("fame", x.fame(1), 360);
        due("fame", x.fame(2), 0);
        due("fifty", x.evenings(50), 0);
        due("night", x.look(5), 53);
        due("lines", x.look(6), 3);
        for (int i = 0; i < 198; i++) x.evenings(50);
        due("night", x.look(5), 9953);
        due("beyond", x.evenings(47), -1);
        due("not beyond", x.evenings(46), 0);
        due("the last", x.look(5), 9999);
        due("no more", x.evenings(1), -1);
        due("no more", x.look(5), 9999);
        due("in thought", x.merry(), 0);
    }

    private static void since() {
        HalfAJoke x = pair("laugh since/9;");
        due("never", x.laugh(0, 1), 999);
        due("one evening", x.evenings(1), 999);
        due("one night", x.laugh(0, 1), 0);
        due("eight nights of nothing", x.evenings(8), 0);
        due("nine nights", x.laugh(0, 1), 1);
        due("told", x.evenings(1), 1);
        due("anew", x.laugh(0, 1), 0);
        HalfAJoke y = pair("laugh night;");
        due("nights 0 to 3", y.evenings(4), 6);
        due("night", y.laugh(0, 1), 4);
    }

    private static void spoil() {
        HalfAJoke x = pair("laugh 10;");
        x.state(7);
        int s = 7;
        int sum = 0;
        x.set(2, 500);
        for (int i = 0; i < 40; i++) {
            s = s * 1664525 + 1013904223;
            boolean spoilt = (s >>> 8) % 1000 < 500;
            sum += spoilt ? 0 : 10;
            due("spoilt " + i, x.evenings(1), spoilt ? 0 : 10);
            due("line " + i, x.book(i, 5), spoilt ? 0 : 10);
        }
        due("state", x.look(7), s);
        due("told all the same", x.told(0, 1), 40);
        due("fame", x.fame(0), 4 * sum);
        due("in thought none is", x.merry(), 10);
        due("in thought none is drawn", x.look(7), s);
        int draw = (s * 1664525 + 1013904223 >>> 8) % 1000;
        x.set(2, draw);
        due("just not below", x.evenings(1), 10);
        x.state(s);
        x.set(2, draw + 1);
        due("just below", x.evenings(1), 0);
        x.set(2, 1);
        x.state(0);
        x.evenings(1);
        due("drawn by the least", x.look(7), 1013904223);
    }

    private static void book() {
        HalfAJoke x = new HalfAJoke();
        x.half(1, 0, 7, 0);
        x.half(0, 0, 5, 1);
        x.guest(0);
        x.guest(1);
        x.seat(0, 0);
        x.seat(1, 1);
        Check.text(x, "laugh front*end;");
        x.evenings(50);
        x.evenings(49);
        due("lines", x.look(6), 99);
        int[] want = {1, 0, 1, 0, 98, 35};
        for (int what = 0; what < 6; what++) due("book", x.book(98, what), want[what]);
        due("none such", x.book(99, 0), -1);
        due("another what", x.book(0, 6), -1);
        due("another what", x.book(0, -1), -1);
        due("none such", x.book(-1, 0), -1);
        for (int far : FAR) due("far", x.book(far, 0), -1);
        x.evenings(3);
        due("no more", x.look(6), 100);
        due("the last", x.book(99, 4), 99);
        due("told goes on", x.told(1, 0), 102);
        due("fame goes on", x.fame(0), 102 * 35 * 4);
        x.undo();
        x.undo();
        due("still full", x.look(6), 100);
        x.undo();
        due("no longer", x.look(6), 99);
        due("none such", x.book(99, 0), -1);
    }

    private static void fame() {
        HalfAJoke x = pair("laugh 7;");
        x.give(0, 2, 0, 2);
        x.give(1, 1, 1, 2);
        x.give(1, 1, 1, 0);
        x.evenings(1);
        int[] want = {7 * 3, 7 * 2, 7 * 3, 0, 0, 0};
        for (int f = 0; f < 6; f++) due("fame", x.fame(f), want[f]);
        due("none such", x.fame(6), -1);
        due("none such", x.fame(-1), -1);
    }

    private static void laughAndTold() {
        HalfAJoke x = pair("laugh front*2+end;");
        due("laugh", x.laugh(0, 1), 40);
        due("told", x.told(0, 1), 0);
        x.evenings(2);
        due("told", x.told(0, 1), 2);
        int[][] wrong = {{1, 0}, {0, 0}, {1, 1}, {0, 2}, {2, 1}, {-1, 1}, {0, -1}, {Integer.MAX_VALUE, 1}, {0, Integer.MIN_VALUE}};
        for (int[] w : wrong) {
            due("laugh", x.laugh(w[0], w[1]), -1);
            due("told", x.told(w[0], w[1]), -1);
        }
    }

    private static void telling() {
        HalfAJoke x = pair("laugh 50-told*20;");
        x.half(0, 0, 1, 0);
        x.half(1, 0, 1, 1);
        x.half(0, 0, 1, 1);
        x.half(1, 0, 1, 0);
        int[] want = {0, 1, 0, 50};
        for (int what = 0; what < 4; what++) due("the least of several", x.telling(0, what), want[what]);
        due("another what", x.telling(0, 4), -1);
        due("another what", x.telling(0, -1), -1);
        due("nobody beside", x.telling(1, 0), -1);
        due("nobody there", x.telling(5, 0), -1);
        due("no seat", x.telling(6, 0), -1);
        due("no seat", x.telling(-1, 0), -1);
        x.evenings(1);
        due("then the next end", x.telling(0, 1), 3);
        x.evenings(1);
        due("then the next front", x.telling(0, 0), 2);
        Check.text(x, "laugh 9 when front=1 and end=1 and told<1;");
        x.evenings(1);
        due("front 2, end 3", x.book(2, 0) * 10 + x.book(2, 1), 23);
        due("now by the other", x.telling(0, 0), 4);
        due("end", x.telling(0, 1), 5);
        due("the guest beside sets it up", x.telling(0, 2), 1);
        Check.text(x, "laugh 0-1;");
        due("nobody laughs", x.telling(0, 0), -1);
        HalfAJoke y = pair("laugh 5;");
        y.set(1, 2);
        y.give(0, 2, 0, 1);
        y.give(1, 2, 1, 0);
        y.seat(0, -1);
        y.seat(1, 0);
        y.seat(0, 1);
        due("both can: he at the seat", y.telling(0, 2), 1);
        due("of one family", pairOfOne().telling(0, 0), -1);
        y.give(1, 1, 0, 2);
        due("only the other one can end it", y.telling(0, 2), 0);
        y.give(1, 1, 2, 0);
        y.give(1, 1, 1, 2);
        due("he at the seat, for the other one can end it", y.telling(0, 2), 1);
    }

    private static HalfAJoke pairOfOne() {
        HalfAJoke x = pair("laugh 5;");
        x.guest(0);
        x.seat(1, -1);
        x.seat(2, 1);
        x.give(1, 4, 1, 0);
        return x;
    }

    private static void merry() {
        HalfAJoke x = pair("laugh 50-told*20 when since>0; laugh 30;");
        x.guest(0);
        x.set(0, 3);
        x.seat(0, 0);
        x.seat(1, 1);
        x.seat(2, 2);
        due("as told is then", x.merry(), 80);
        due("nothing stays", x.told(0, 1), 0);
        due("nothing stays", x.merry(), 80);
        due("so it is", x.evenings(1), 80);
        due("and then", x.merry(), 40);
    }

    private static void fit() {
        HalfAJoke x = new HalfAJoke();
        due("nothing", x.fit(0), 0);
        due("no half", x.fit(10), -1);
        for (int i = 0; i < 8; i++) x.half(i % 2, 0, new int[] {1, 1, 2, 2, 3, 3, 4, 4}[i], 0);
        Check.text(x, "laugh 10 when front=end and front>1;");
        due("sum", x.fit(0), 30);
        for (int h = 0; h < 8; h++) due("partner", x.fit(10 + h), h ^ 1);
        Check.text(x, "laugh front*end when front+end=5;");
        due("sum", x.fit(0), 4 + 6 + 6 + 4);
        due("crosswise", x.fit(10), 7);
        due("crosswise", x.fit(17), 0);
        Check.text(x, "laugh 9 when end=2 and front>2; laugh 8 when end=1;");
        due("sum", x.fit(0), 17);
        due("the least has the least", x.fit(10), 1);
        due("none of use, but the least free", x.fit(12), 5);
        due("end 3", x.fit(13), 4);
        due("the last", x.fit(16), 7);
        for (int what : new int[] {1, 9, 18, -1, 26, Integer.MIN_VALUE, Integer.MIN_VALUE + 9}) due("another what", x.fit(what), -1);
        for (int i = 0; i < 4; i++) x.half(0, 0, 9, 0);
        due("eight fronts", x.fit(0), 17);
        due("less ends than fronts", x.fit(18), -1);
        x.half(0, 0, 9, 0);
        due("nine", x.fit(0), -1);
        due("nine", x.fit(10), -1);
    }

    /** A front that must do without, so that others laugh more. */
    private static void fitWithout() {
        HalfAJoke x = new HalfAJoke();
        x.half(0, 0, 1, 0);
        x.half(0, 0, 5, 0);
        x.half(0, 0, 6, 0);
        x.half(1, 0, 0, 0);
        x.half(1, 0, 0, 0);
        Check.text(x, "laugh front;");
        due("sum", x.fit(0), 11);
        due("without", x.fit(10), -1);
        due("partner", x.fit(11), 3);
        due("partner", x.fit(12), 4);
        due("partner", x.fit(13), 1);
        due("partner", x.fit(14), 2);
        HalfAJoke y = new HalfAJoke();
        for (int i = 0; i < 16; i++) y.half(i / 8, 0, i, 0);
        Check.text(y, "laugh front*end;");
        due("eight of each", y.fit(0), 7 * 15 + 6 * 14 + 5 * 13 + 4 * 12 + 3 * 11 + 2 * 10 + 9);
        for (int i = 0; i < 8; i++) due("in order", y.fit(10 + i), 8 + i);
    }

    private static void seating() {
        HalfAJoke x = new HalfAJoke();
        for (int i = 0; i < 8; i++) x.half(i % 2, i / 2, 5, i < 4 ? i : i - 2);
        Check.text(x, "laugh 9+joke when same=1;");
        for (int i = 0; i < 2; i++) x.guest(i * 2);
        due("two", x.seating(0), -1);
        x.guest(1);
        due("three", x.seating(0), 9);
        x.guest(3);
        due("four", x.seating(0), 9 + 11);
        int[] row = {0, 1, 3, 2};
        for (int i = 0; i < 4; i++) due("row", x.seating(10 + i), row[i]);
        due("no seat", x.seating(14), -1);
        for (int what : new int[] {1, 9, -1, Integer.MIN_VALUE, Integer.MIN_VALUE + 9}) due("another what", x.seating(what), -1);
        due("nobody has moved", x.who(0, 1), -1);
        for (int i = 0; i < 3; i++) x.guest(4 + i % 2);
        due("seven", x.seating(0) > 0, true);
        due("guest 0 on seat 0", x.seating(10), 0);
        x.guest(0);
        due("eight", x.seating(0), -1);
        due("eight", x.seating(10), -1);
        HalfAJoke y = new HalfAJoke();
        for (int i = 0; i < 7; i++) y.guest(i % 6);
        due("nothing to laugh", y.seating(0), 0);
        for (int i = 0; i < 7; i++) due("the first row", y.seating(10 + i), i);
    }

    private static void change() {
        HalfAJoke x = pair("laugh 5;");
        due("no change helps", x.change(0), -1);
        due("no change helps", x.change(2), -1);
        x.seat(1, 3);
        x.guest(2);
        x.guest(3);
        due("who stands can't", x.change(0), -1);
        x.seat(2, 2);
        x.seat(3, 1);
        due("the lesser", x.change(0), 0);
        due("the other", x.change(1), 2);
        due("by how much", x.change(2), 5);
        due("another what", x.change(3), -1);
        due("another what", x.change(-1), -1);
        due("nobody has moved", x.who(0, 1) * 10 + x.who(2, 1), 2);
        x.feud(0, 1, true);
        due("none any more", x.change(1), -1);
    }

    private static void like() {
        HalfAJoke x = new HalfAJoke();
        x.half(0, 0, 50, 0);
        x.half(0, 0, 60, 1);
        x.half(0, 0, 40, 2);
        x.half(0, 0, 50, 0);
        x.half(1, 0, 50, 3);
        x.half(0, 0, 61, 4);
        due("ten apart", x.like(0, 10), 2 | 4);
        due("nine apart", x.like(0, 9), 0);
        due("eleven apart", x.like(0, 11), 2 | 4 | 32);
        due("none apart", x.like(0, 0), 0);
        x.give(3, 1, 0, 5);
        due("one quarter of another", x.like(0, 0), 8);
        due("but not the other way", x.like(3, 0), 0);
        x.give(0, 1, 0, 5);
        due("both have of both", x.like(0, 0), 0);
        due("an end alone", x.like(4, 99), 0);
        int[][] wrong = {{6, 0}, {-1, 0}, {0, -1}, {0, 100}, {Integer.MAX_VALUE, 5}};
        for (int[] w : wrong) due("like", x.like(w[0], w[1]), -1);
    }

    private static void silent() {
        HalfAJoke x = pair("laugh 1 when told<2;");
        due("one speaks", x.silent(0), 60);
        due("the other one", x.silent(1), 60);
        due("the others", x.silent(2), 59);
        x.give(0, 2, 0, 2);
        due("two quarters each", x.silent(1), 63 - 2 - 1 - 4);
        x.feud(1, 2, true);
        due("a feud", x.silent(1), 60);
        x.evenings(2);
        due("told too often", x.silent(1), 61);
        due("none such", x.silent(6), -1);
        due("none such", x.silent(-1), -1);
    }

    private static void worth() {
        HalfAJoke x = new HalfAJoke();
        due("no half", x.worth(0, 10), -1);
        x.half(0, 0, 10, 0);
        due("alone", x.worth(0, 10), 10);
        due("alone", x.worth(1, 10), 0);
        due("alone", x.worth(0, 0), 1);
        x.half(1, 0, 30, 0);
        Check.text(x, "laugh 40;");
        due("still from the start", x.worth(99, 0), 0);
        due("no circle", x.worth(-5, 1), 0);
        due("worth", x.worth(40, 11), 30);
        Check.text(x, "laugh 50;");
        due("a circle", x.worth(0, 0), -1);
        due("its length", x.worth(0, 1), 2);
        due("round 1", x.worth(1, 10) * 100 + x.worth(1, 11), 2040);
        due("round 2", x.worth(2, 10) * 100 + x.worth(2, 11), 1030);
        Check.text(x, "laugh 25;");
        due("round 1", x.worth(1, 10) * 100 + x.worth(1, 11), 15);
        due("round 2", x.worth(2, 10) * 100 + x.worth(2, 11), 1025);
        due("round 3", x.worth(3, 10) * 100 + x.worth(3, 11), 15);
        due("a circle from round 1 on", x.worth(0, 1), 2);
        due("round 39", x.worth(39, 10) * 100 + x.worth(39, 11), 15);
        due("round 40", x.worth(40, 10) * 100 + x.worth(40, 11), 1025);
        for (int what : new int[] {2, 9, 12, -1, 26, Integer.MIN_VALUE, Integer.MIN_VALUE + 9}) due("another what", x.worth(0, what), -1);
        due("rounds", x.worth(41, 10), -1);
        due("rounds", x.worth(-1, 10), -1);
    }

    private static void away() {
        HalfAJoke x = pair("laugh 5;");
        due("nobody counts", new HalfAJoke().away(0), 0);
        due("without either", x.away(0), 3);
        due("not as now", x.away(5), 0);
        x.guest(0);
        x.guest(4);
        x.guest(4);
        x.seat(2, 2);
        x.seat(3, 4);
        due("without one of them", x.away(5), 5);
        due("without the one between", x.away(0), 2);
        due("without who tells nothing", x.away(10), 8);
        due("below", x.away(-1), 0);
        due("far", x.away(Integer.MIN_VALUE), 0);
        due("nobody has gone", x.merry(), 10);
    }

    private static void uncle() {
        HalfAJoke x = new HalfAJoke();
        due("nothing to leave", x.uncle(0, 0), 1);
        due("nothing to leave", x.uncle(5, 0), 0);
        due("merry", x.uncle(5, 1), 0);
        due("none such", x.uncle(6, 0), -1);
        due("none such", x.uncle(-1, 0), -1);
        due("another what", x.uncle(0, 2), -1);
        due("another what", x.uncle(0, -1), -1);
        x = pair("laugh 5+front;");
        x.half(0, 0, 90, 5);
        x.give(2, 1, 5, 1);
        due("to whom", x.uncle(5, 0), 0);
        due("merry then", x.uncle(5, 1), 95);
        due("who has it can't any more", x.uncle(0, 1), 0);
        due("nothing is left", x.of(2, 15), 3);
        x.set(1, 4);
        due("one quarter less", x.uncle(5, 1), 15);
        due("all the same: the least", x.uncle(5, 0), 0);
        x.half(1, 0, 0, 0);
        x.give(2, 1, 1, 0);
        x.give(2, 1, 0, 1);
        due("the quarters together", x.uncle(5, 0), 1);
        due("merry then", x.uncle(5, 1), 95);
    }

    private static void undo() {
        HalfAJoke x = pair("laugh 50-told when since>0; laugh 1;");
        x.set(2, 400);
        x.state(99);
        int[] states = new int[9];
        int[] fames = new int[9];
        for (int i = 0; i < 9; i++) {
            states[i] = x.look(7);
            fames[i] = x.fame(0);
            x.evenings(1);
        }
        due("six are kept", x.look(9), 6);
        for (int i = 8; i >= 3; i--) {
            due("undo", x.undo(), true);
            due("night", x.look(5), i);
            due("lines", x.look(6), i);
            due("told", x.told(0, 1), i);
            due("state", x.look(7), states[i]);
            due("fame", x.fame(0), fames[i]);
            due("left", x.look(9), i - 3);
        }
        due("no more", x.undo(), false);
        due("night", x.look(5), 3);
        x.evenings(1);
        x.undo();
        x.evenings(2);
        due("two", x.look(9), 2);
        Check.text(x, "laugh 3;");
        due("texts forget nothing", x.look(9), 2);
        due("undo", x.undo(), true);
        due("the law stays", x.laugh(0, 1), 3);
        x.evenings(0);
        x.image(true);
        due("nor do others", x.look(9), 1);
    }

    private static void undoSince() {
        HalfAJoke x = pair("laugh since;");
        x.guest(0);
        x.set(0, 3);
        x.seat(0, 0);
        x.seat(1, 1);
        x.seat(2, 2);
        x.evenings(1);
        Check.text(x, "laugh since+1;");
        x.evenings(3);
        due("three nights of two", x.told(0, 1), 7);
        due("since", x.laugh(0, 1), 2);
        x.seat(0, -1);
        x.seat(2, -1);
        x.evenings(4);
        due("since", x.laugh(0, 1), 6);
        x.undo();
        due("since", x.laugh(0, 1), 5);
        HalfAJoke y = pair("laugh 1 when night=0 or night=4;");
        y.evenings(5);
        Check.text(y, "laugh since;");
        due("since the second", y.laugh(0, 1), 1);
        y.undo();
        due("since the first", y.laugh(0, 1), 4);
    }

    private static void image() {
        HalfAJoke x = pair("laugh 50-told;");
        due("none", x.image(false), false);
        x.feud(3, 4, true);
        x.set(2, 300);
        x.evenings(2);
        due("taken", x.image(true), true);
        due("what can be undone stays", x.look(9), 2);
        int state = x.look(7);
        int fame = x.fame(0);
        for (int again = 0; again < 2; again++) {
            x.evenings(5);
            x.half(0, 1, 1, 1);
            x.give(0, 4, 0, 5);
            x.feud(3, 4, false);
            x.feud(0, 1, true);
            x.guest(5);
            x.seat(0, 3);
            x.set(0, 8);
            x.set(1, 4);
            x.set(2, 0);
            Check.text(x, "laugh 1;laugh 2/0;");
            Check.text(x, "laugh 7;laugh 2;");
            x.feed(0, 0, 0, 0, 0);
            x.evenings(1);
            due("gone back", x.image(false), true);
            int[] want = {6, 2, 300, 2, 2, 2, 2, state, 1, 0, 0, 1};
            for (int i = 0; i < want.length; i++) due("look " + i, x.look(i), want[i]);
            due("feuds", x.look(23) * 100 + x.look(20), 1600);
            due("fame", x.fame(0), fame);
            due("told", x.told(0, 1), 2);
            due("the law", x.laugh(0, 1), 48);
            due("quarters", x.of(0, 10), 4);
            due("seat", x.who(0, 1), 0);
            due("no guest", x.who(2, 0), -2);
            due("no half", x.of(2, 0), -1);
            due("book", x.book(1, 4), 1);
            due("undo", x.undo(), false);
            due("the tape stays", x.end(20), true);
            due("and ends", x.end(0), true);
        }
        Check.text(x, "laugh 1/0;");
        x.image(false);
        due("the fault stays", x.fault(0) * 100 + x.fault(1), 208);
        x.half(1, 0, 0, 5);
        due("a new half has its own quarters", x.of(2, 11), 0);
        x.image(true);
        x.set(1, 1);
        x.image(false);
        due("a newer image", x.look(3), 3);
    }

    private static void imageOfEvenings() {
        HalfAJoke x = pair("laugh since;");
        x.evenings(3);
        x.image(true);
        due("since", x.laugh(0, 1), 1);
        x.evenings(4);
        x.image(false);
        due("since, as it was", x.laugh(0, 1), 1);
        Check.text(x, "laugh 4;");
        x.evenings(2);
        x.image(true);
        x.undo();
        x.undo();
        Check.text(x, "laugh 9;");
        x.evenings(2);
        due("other lines", x.book(x.look(6) - 1, 5), 9);
        x.image(false);
        due("the lines, as they were", x.book(x.look(6) - 1, 5), 4);
        due("the law, as it was", x.laugh(0, 1), 4);
    }

    /** As much of everything as there can be, each answer asked at each edge. */
    private static void fullHouse() {
        HalfAJoke x = new HalfAJoke();
        Model m = new Model();
        String law = "laugh front+end-told*9+joke*same when since>0; laugh front/2;";
        for (int i = 0; i < 16; i++) due("half", x.half(i % 2, i % 10, i * 6, i % 6), m.half(i % 2, i % 10, i * 6, i % 6));
        for (int i = 0; i < 16; i++) due("give", x.give(i, 2, i % 6, 5 - i % 6), m.give(i, 2, i % 6, 5 - i % 6));
        due("set", x.set(0, 8), m.set(0, 8));
        for (int i = 0; i < 8; i++) {
            due("guest", x.guest((i + 3) % 6), m.guest((i + 3) % 6));
            due("seat", x.seat(i, i * 3 % 8), m.seat(i, i * 3 % 8));
        }
        m.tape.append(law);
        due("text", Check.text(x, law), m.text());
        for (int again = 0; again < 3; again++) {
            due("merry", x.merry(), m.merry());
            for (int i = -1; i < 28; i++) askOne(x, m, i);
            for (int i = -1; i < 17; i++) for (int k = -1; k < 17; k++) askTwo(x, m, i, k);
            due("evenings", x.evenings(4), m.evenings(4));
        }
        for (int i = 0; i < 7; i++) {
            due("undo", x.undo(), m.undo());
            for (int k = -1; k < 28; k++) askOne(x, m, k);
            for (int f = 0; f < 16; f += 2) for (int e = 1; e < 16; e += 2) askTwo(x, m, f, e);
        }
        due("heirs", x.heirs(5, 31), m.heirs(5, 31));
        for (int i = -1; i < 17; i++) for (int k = -1; k < 17; k++) askTwo(x, m, i, k);
    }

    private static void askOne(HalfAJoke x, Model m, int i) {
        due("look", x.look(i), m.look(i));
        due("fame", x.fame(i), m.fame(i));
        due("change", x.change(i), m.change(i));
        due("silent", x.silent(i), m.silent(i));
        due("away", x.away(i * 40), m.away(i * 40));
        due("seating", x.seating(i), m.seating(i));
    }

    private static void askTwo(HalfAJoke x, Model m, int i, int k) {
        due("of", x.of(i, k), m.of(i, k));
        due("who", x.who(i, k), m.who(i, k));
        due("laugh", x.laugh(i, k), m.laugh(i, k));
        due("told", x.told(i, k), m.told(i, k));
        due("telling", x.telling(i, k), m.telling(i, k));
        due("book", x.book(i, k), m.book(i, k));
        due("like", x.like(i, k), m.like(i, k));
        due("uncle", x.uncle(i, k), m.uncle(i, k));
        due("worth", x.worth(i, k + 10), m.worth(i, k + 10));
    }

    private static void look() {
        HalfAJoke x = pair("laugh 1;laugh 2;");
        x.evenings(1);
        int[] want = {6, 2, 0, 2, 2, 1, 1, 0, 2, 1, 0, 1, -1, -1, -1, -1, -1, -1, -1, -1};
        for (int i = 0; i < want.length; i++) due("look " + i, x.look(i), want[i]);
        for (int what : new int[] {-1, 26, 27, Integer.MIN_VALUE, Integer.MAX_VALUE}) due("look", x.look(what), -1);
    }

    public static void main(String[] args) {
        aNewObject();
        state();
        half();
        of();
        give();
        heirs();
        feud();
        guest();
        seat();
        set();
        evenings();
        since();
        spoil();
        book();
        fame();
        laughAndTold();
        telling();
        merry();
        fit();
        fitWithout();
        seating();
        change();
        like();
        silent();
        worth();
        away();
        uncle();
        undo();
        undoSince();
        image();
        imageOfEvenings();
        fullHouse();
        look();
        Check.finish();
    }
}
