/** Counts what is not as due, and tells texts to an object. */
final class Check {
    private static int wrong = 0;
    private static int asked = 0;
    private static String scene = "";

    private Check() { }

    /** What each line that is not as due begins with, from here on. */
    static void begin(String newScene) {
        scene = newScene;
    }

    static void due(String what, int got, int want) {
        asked++;
        if (got != want) {
            wrong++;
            System.out.println(scene + what + " answered " + got + ", due is " + want);
        }
    }

    static void due(String what, boolean got, boolean want) {
        due(what, got ? 1 : 0, want ? 1 : 0);
    }

    static void due(String what, String got, String want) {
        asked++;
        if (!got.equals(want)) {
            wrong++;
            System.out.println(scene + what + " is " + got + ", due is " + want);
        }
    }

    static int text(HalfAJoke x, String text) {
        x.end(0);
        for (int i = 0; i < text.length(); i += 20) {
            int[] v = new int[5];
            for (int k = 0; k < 20; k++) {
                v[k / 4] = v[k / 4] << 8 | (i + k < text.length() ? text.charAt(i + k) : ' ');
            }
            x.feed(v[0], v[1], v[2], v[3], v[4]);
        }
        due("end", x.end(text.length()), true);
        return x.text();
    }

    static void finish() {
        System.out.println(asked + " asked, " + wrong + " not as due");
        if (wrong != 0) {
            System.exit(1);
        }
    }
}
