/** Objects to begin with, and all that can be seen of one. */
final class Scenes {
    static final int MIN = Integer.MIN_VALUE;
    static final int MAX = Integer.MAX_VALUE;

    private Scenes() { }

    static void due(String what, int got, int want) {
        Check.due(what, got, want);
    }

    static void due(String what, boolean got, boolean want) {
        Check.due(what, got, want);
    }

    /** FRONT 0 (JOKE 3, WIT 10) of FAMILY 0 and END 1 (JOKE 3, WIT 20) of FAMILY 1; nobody at the table. */
    static HalfAJoke halves(String law) {
        HalfAJoke x = new HalfAJoke();
        x.half(0, 3, 10, 0);
        x.half(1, 3, 20, 1);
        Check.text(x, law);
        return x;
    }

    /** The two HALVES, and GUESTS of the FAMILIES told on SEATS 0, 1, .. of a TABLE of n SEATS. */
    static HalfAJoke table(String law, int n, int... families) {
        HalfAJoke x = halves(law);
        x.set(0, n);
        for (int i = 0; i < families.length; i++) {
            x.guest(families[i]);
            x.seat(i, i);
        }
        return x;
    }

    /** GUEST 0 of FAMILY 0 beside GUEST 1 of FAMILY 1 at a TABLE of six. */
    static HalfAJoke pair(String law) {
        return table(law, 6, 0, 1);
    }

    /** Halves of the wits told, FRONTS, then ENDS, all of FAMILY 0. */
    static HalfAJoke wits(String law, int[] fronts, int[] ends) {
        HalfAJoke x = new HalfAJoke();
        for (int wit : fronts) x.half(0, 0, wit, 0);
        for (int wit : ends) x.half(1, 0, wit, 0);
        Check.text(x, law);
        return x;
    }

    /** Brings the NIGHT from 0 to some NIGHT. */
    static void sleepTill(HalfAJoke x, int night) {
        while (x.look(5) < night) x.evenings(Math.min(50, night - x.look(5)));
    }

    /** All that can be seen but what is in thought, as a text. */
    static String view(HalfAJoke x) {
        StringBuilder s = new StringBuilder("look");
        for (int what = 0; what < 26; what++) s.append(' ').append(x.look(what));
        s.append(" fault ").append(x.fault(0)).append(' ').append(x.fault(1)).append(" fame");
        for (int f = 0; f < 6; f++) s.append(' ').append(x.fame(f));
        int halves = x.look(3);
        for (int h = 0; h < halves; h++) {
            s.append(" half ").append(x.of(h, 0)).append(' ').append(x.of(h, 1)).append(' ').append(x.of(h, 2));
            for (int f = 0; f < 6; f++) s.append(' ').append(x.of(h, 10 + f));
        }
        for (int f = 0; f < halves; f++) {
            for (int e = 0; e < halves; e++) {
                if (x.of(f, 0) == 0 && x.of(e, 0) == 1) s.append(" told ").append(x.told(f, e)).append(' ').append(x.laugh(f, e));
            }
        }
        int guests = x.look(4);
        for (int g = 0; g < guests; g++) s.append(" who ").append(x.who(g, 0)).append(' ').append(x.who(g, 1));
        int last = x.look(6) - 1;
        for (int what = 0; what < 6; what++) s.append(" book ").append(x.book(last, what));
        return s.toString();
    }

    static void unchanged(HalfAJoke x, String before) {
        Check.due("what can be seen", view(x), before);
    }
}
