/** Each boundary case that the sections 'Promise 1' to 'Promise 33' name, by promise and sentence. */
public final class BoundsOfPromisesTest {
    private static final int MIN = Scenes.MIN;
    private static final int MAX = Scenes.MAX;

    private static void due(String what, int got, int want) {
        Scenes.due(what, got, want);
    }

    private static void due(String what, boolean got, boolean want) {
        Scenes.due(what, got, want);
    }

    /** A scene in which everything was told, one EVENING can be undone, and a FAULT is known. */
    private static HalfAJoke busy() {
        HalfAJoke x = Scenes.table("laugh 50-told;", 5, 0, 1, 2);
        x.give(0, 1, 0, 4);
        x.feud(3, 4, true);
        x.set(1, 3);
        x.set(2, 500);
        x.state(77);
        x.evenings(1);
        Check.text(x, "laugh 1/0;");
        return x;
    }

    @Says(promise = 1, sentence = "A table of six seats, nobody there.")
    static void sixSeatsNobodyThere() {
        HalfAJoke x = new HalfAJoke();
        due("N", x.look(0), 6);
        due("guests", x.look(4), 0);
        for (int i = 0; i < 6; i++) due("seat " + i, x.look(10 + i), HalfAJoke.NONE);
        due("a first guest", x.guest(0), 0);
        due("the sixth seat", x.seat(0, 5), true);
        due("no seventh", x.seat(0, 6), false);
    }

    @Says(promise = 1, sentence = "The constants: `NONE = -1`: None.")
    static void none() {
        due("NONE", HalfAJoke.NONE, -1);
    }

    @Says(promise = 1, sentence = "An object is used for at most 512 calls after it has been made")
    static void fiveHundredAndTwelveCalls() {
        HalfAJoke x = new HalfAJoke();
        for (int i = 0; i < 510; i++) x.state(i);
        due("call 511", x.state(-7), 509);
        due("call 512", x.look(7), -7);
    }

    @Says(promise = 2, sentence = "STATE is told: what it was.")
    static void anyStateIsTold() {
        HalfAJoke x = new HalfAJoke();
        due("at first", x.state(MIN), 0);
        due("the least", x.state(MAX), MIN);
        due("the greatest", x.state(-1), MAX);
        due("NONE is a state too", x.state(0), -1);
        due("now", x.look(7), 0);
    }

    @Says(promise = 3, sentence = "A HALF: its number;")
    static void halvesAreNumberedFromZero() {
        HalfAJoke x = new HalfAJoke();
        due("the least of all", x.half(0, 0, 0, 0), 0);
        due("the greatest of all", x.half(1, 9, 99, 5), 1);
        due("the same once more", x.half(1, 9, 99, 5), 2);
    }

    @Says(promise = 3, sentence = "NONE if one can't be")
    static void halvesThatCantBe() {
        HalfAJoke x = busy();
        String before = Scenes.view(x);
        for (int v : new int[] {-1, 2, MIN, MAX}) due("end " + v, x.half(v, 0, 0, 0), -1);
        for (int v : new int[] {-1, 10, MIN, MAX}) due("joke " + v, x.half(0, v, 0, 0), -1);
        for (int v : new int[] {-1, 100, MIN, MAX}) due("wit " + v, x.half(0, 0, v, 0), -1);
        for (int v : new int[] {-1, 6, MIN, MAX}) due("family " + v, x.half(0, 0, 0, v), -1);
        Scenes.unchanged(x, before);
        due("the next number", x.half(0, 0, 0, 0), 2);
    }

    @Says(promise = 3, sentence = "or there are sixteen.")
    static void theSeventeenthHalf() {
        HalfAJoke x = new HalfAJoke();
        for (int i = 0; i < 15; i++) x.half(i % 2, 0, i, 0);
        due("the sixteenth", x.half(1, 9, 99, 5), 15);
        due("the seventeenth", x.half(0, 0, 0, 0), -1);
        due("an end too", x.half(1, 0, 0, 0), -1);
        due("how many", x.look(3), 16);
        due("the last stays", x.of(15, 2), 99);
    }

    @Says(promise = 4, sentence = "false if they can't be (alike")
    static void givenToOneself() {
        HalfAJoke x = busy();
        String before = Scenes.view(x);
        for (int f = 0; f < 6; f++) due("family " + f, x.give(0, 1, f, f), false);
        Scenes.unchanged(x, before);
    }

    @Says(promise = 4, sentence = "not as many there;")
    static void givenMoreThanThereAre() {
        HalfAJoke x = busy();
        String before = Scenes.view(x);
        due("four of three", x.give(0, 4, 0, 1), false);
        due("two of one", x.give(0, 2, 4, 1), false);
        due("one of none", x.give(0, 1, 1, 0), false);
        due("five", x.give(1, 5, 1, 0), false);
        due("far more", x.give(1, MAX, 1, 0), false);
        Scenes.unchanged(x, before);
        due("just as many", x.give(0, 3, 0, 1), true);
        due("none is left", x.of(0, 10), 0);
        due("all four of another", x.give(1, 4, 1, 5), true);
        due("all have come", x.of(1, 15), 4);
    }

    @Says(promise = 4, sentence = "below 1).")
    static void givenLessThanOne() {
        HalfAJoke x = busy();
        String before = Scenes.view(x);
        for (int v : new int[] {0, -1, -4, MIN}) due(v + " quarters", x.give(0, v, 0, 1), false);
        Scenes.unchanged(x, before);
        due("one", x.give(0, 1, 0, 1), true);
    }

    @Says(promise = 4, sentence = "QUARTERS of a HALF are GIVEN: true; false if they can't be")
    static void givenOfWhatIsNot() {
        HalfAJoke x = busy();
        String before = Scenes.view(x);
        for (int v : new int[] {-1, 2, 15, 16, MIN, MAX}) due("half " + v, x.give(v, 1, 0, 1), false);
        for (int v : new int[] {-1, 6, MIN, MAX}) {
            due("from " + v, x.give(0, 1, v, 1), false);
            due("to " + v, x.give(0, 1, 0, v), false);
        }
        Scenes.unchanged(x, before);
        due("to the last family", x.give(0, 1, 0, 5), true);
    }

    @Says(promise = 5, sentence = "A FAMILY DIES OUT: how many QUARTERS went;")
    static void howManyWent() {
        HalfAJoke x = new HalfAJoke();
        due("no halves", x.heirs(0, 62), 0);
        for (int i = 0; i < 16; i++) x.half(i % 2, 0, 0, 5);
        due("of who has none", x.heirs(0, 32), 0);
        due("of all that can be", x.heirs(5, 31), 64);
        due("none is left", x.heirs(5, 31), 0);
    }

    @Says(promise = 5, sentence = "NONE if one can't be (no HEIRS")
    static void noHeirs() {
        HalfAJoke x = busy();
        String before = Scenes.view(x);
        due("none", x.heirs(0, 0), -1);
        for (int v : new int[] {64, 66, -2, 1 << 30, MIN, MAX - 1}) due("set " + v, x.heirs(0, v), -1);
        for (int v : new int[] {-1, 6, 31, 32, MIN, MAX}) due("family " + v, x.heirs(v, 2), -1);
        Scenes.unchanged(x, before);
    }

    @Says(promise = 5, sentence = "itself among them).")
    static void itselfAmongTheHeirs() {
        HalfAJoke x = busy();
        String before = Scenes.view(x);
        for (int f = 0; f < 6; f++) {
            due("itself alone", x.heirs(f, 1 << f), -1);
            due("with all others", x.heirs(f, 63), -1);
        }
        Scenes.unchanged(x, before);
        due("all others", x.heirs(0, 62), 3);
    }

    @Says(promise = 6, sentence = "A FEUD or none: true;")
    static void feudsAsTheyAre() {
        HalfAJoke x = new HalfAJoke();
        due("none where none is", x.feud(0, 5, false), true);
        due("none", x.look(20), 0);
        due("a feud", x.feud(0, 5, true), true);
        due("the same, the other way", x.feud(5, 0, true), true);
        due("of 0", x.look(20), 32);
        due("of 5", x.look(25), 1);
        due("none again", x.feud(5, 0, false), true);
        due("of 0", x.look(20), 0);
        due("of 5", x.look(25), 0);
    }

    @Says(promise = 6, sentence = "false if one can't be.")
    static void feudsThatCantBe() {
        HalfAJoke x = busy();
        String before = Scenes.view(x);
        for (boolean is : new boolean[] {true, false}) {
            for (int f = 0; f < 6; f++) due("alike " + f, x.feud(f, f, is), false);
            for (int v : new int[] {-1, 6, 35, MIN, MAX}) {
                due("with " + v, x.feud(3, v, is), false);
                due("of " + v, x.feud(v, 3, is), false);
            }
        }
        Scenes.unchanged(x, before);
    }

    @Says(promise = 7, sentence = "A GUEST: the number; NONE if one can't be")
    static void guestsThatCantBe() {
        HalfAJoke x = busy();
        String before = Scenes.view(x);
        for (int v : new int[] {-1, 6, MIN, MAX}) due("family " + v, x.guest(v), -1);
        Scenes.unchanged(x, before);
        due("the first family", x.guest(0), 3);
        due("the last family", x.guest(5), 4);
        due("of it", x.who(4, 0), 5);
        due("he stands", x.who(4, 1), -1);
    }

    @Says(promise = 7, sentence = "or there are eight.")
    static void theNinthGuest() {
        HalfAJoke x = new HalfAJoke();
        for (int i = 0; i < 8; i++) due("guest", x.guest(5), i);
        due("the ninth", x.guest(5), -1);
        due("how many", x.look(4), 8);
        due("none such", x.who(8, 0), -2);
    }

    @Says(promise = 8, sentence = "A GUEST comes to a SEAT (empty")
    static void onlyToAnEmptySeat() {
        HalfAJoke x = busy();
        String before = Scenes.view(x);
        due("taken by another one", x.seat(0, 1), false);
        due("taken by another one", x.seat(2, 0), false);
        Scenes.unchanged(x, before);
        due("empty", x.seat(0, 4), true);
        due("who left it", x.look(10), -1);
        due("is there", x.look(14), 0);
        due("so it is empty", x.seat(2, 0), true);
    }

    @Says(promise = 8, sentence = "NONE: he stands): true;")
    static void heStands() {
        HalfAJoke x = busy();
        due("up", x.seat(1, HalfAJoke.NONE), true);
        due("his seat", x.who(1, 1), -1);
        due("is empty", x.look(11), -1);
        due("still", x.seat(1, HalfAJoke.NONE), true);
        due("two of them", x.seat(0, HalfAJoke.NONE), true);
        due("the third sits", x.who(2, 1), 2);
    }

    @Says(promise = 8, sentence = "false if one can't be (")
    static void seatsThatCantBe() {
        HalfAJoke x = busy();
        String before = Scenes.view(x);
        for (int v : new int[] {5, 6, 7, 8, -2, MIN, MAX}) due("seat " + v, x.seat(0, v), false);
        for (int v : new int[] {3, 7, 8, -1, MIN, MAX}) {
            due("guest " + v, x.seat(v, 3), false);
            due("guest " + v + " stands", x.seat(v, -1), false);
        }
        Scenes.unchanged(x, before);
        due("the last one", x.seat(0, 4), true);
    }

    @Says(promise = 8, sentence = "his own: true).")
    static void hisOwnSeat() {
        HalfAJoke x = busy();
        for (int g = 0; g < 3; g++) {
            due("his own", x.seat(g, g), true);
            due("he sits there", x.who(g, 1), g);
            due("he is there", x.look(10 + g), g);
        }
    }

    @Says(promise = 9, sentence = "false if one can't be, or another what.")
    static void setsThatCantBe() {
        HalfAJoke x = busy();
        String before = Scenes.view(x);
        for (int v : new int[] {2, 9, 0, -3, MIN, MAX}) due("N " + v, x.set(0, v), false);
        for (int v : new int[] {0, 5, -1, MIN, MAX}) due("NEED " + v, x.set(1, v), false);
        for (int v : new int[] {-1, 1001, MIN, MAX}) due("SPOIL " + v, x.set(2, v), false);
        for (int v : new int[] {-1, 3, 10, MIN, MAX}) due("what " + v, x.set(v, 3), false);
        Scenes.unchanged(x, before);
    }

    @Says(promise = 9, sentence = "What 0 N, 1 NEED, 2 SPOIL: true;")
    static void setsAtTheirEdges() {
        HalfAJoke x = new HalfAJoke();
        int[][] edges = {{0, 3}, {0, 8}, {1, 1}, {1, 4}, {2, 0}, {2, 1}, {2, 999}, {2, 1000}};
        for (int[] e : edges) {
            due(e[1] + " for " + e[0], x.set(e[0], e[1]), true);
            due("is so", x.look(e[0]), e[1]);
        }
        due("N stays", x.look(0), 8);
        due("NEED stays", x.look(1), 4);
    }

    @Says(promise = 10, sentence = "Twenty bytes come behind the TAPE, of each number the highest first: how many it has.")
    static void highestByteFirst() {
        HalfAJoke x = Scenes.halves("");
        due("behind nothing", x.feed(0x6c617567, 0x68203132, 0x33342d20, 0x20202020, 0x20202039), 20);
        due("behind it", x.feed(0x3939203b, -1, MIN, MAX, 0), 40);
        due("the first bytes", x.end(24), true);
        due("laugh 1234-     999 ;", x.text(), 1);
        due("so it is read", x.laugh(0, 1), 235);
        due("bytes with the highest bit", x.feed(0xff202020, 0, 0, 0, 0), 20);
        due("are no blanks", x.text(), -1);
        due("at their place", x.fault(1), 0);
    }

    @Says(promise = 10, sentence = "NONE, and nothing comes, if there would be more than 400.")
    static void noMoreThanFourHundredBytes() {
        HalfAJoke x = new HalfAJoke();
        for (int i = 1; i < 20; i++) due("feed", x.feed(0, 0, 0, 0, 0), 20 * i);
        due("just 400", x.feed(0, 0, 0, 0, 0), 400);
        due("420", x.feed(0, 0, 0, 0, 0), -1);
        due("nothing came", x.end(401), false);
        due("400 are there", x.end(381), true);
        due("401", x.feed(0, 0, 0, 0, 0), -1);
        due("nothing came", x.end(382), false);
        due("one less", x.end(380), true);
        due("just 400 again", x.feed(0, 0, 0, 0, 0), 400);
    }

    @Says(promise = 11, sentence = "The TAPE has its first n bytes alone: true;")
    static void theFirstBytesAlone() {
        HalfAJoke x = Scenes.halves("");
        due("none of none", x.end(0), true);
        x.feed(0x6c617567, 0x6820373b, 0x6c617567, 0x6820383b, 0);
        due("all of them", x.end(20), true);
        due("16", x.end(16), true);
        due("the first line", x.end(8), true);
        due("feed behind it", x.feed(0x20202020, 0x20202020, 0x20202020, 0x20202020, 0x20202020), 28);
        due("one line is left", x.text(), 1);
        x.feed(0x21212121, 0, 0, 0, 0);
        due("nothing is left", x.end(0), true);
        due("an empty law", x.text(), 0);
    }

    @Says(promise = 11, sentence = "The TAPE has its first n bytes alone: true;")
    static void whatWasBehindIsNoMore() {
        HalfAJoke x = new HalfAJoke();
        // laugh 12345678901234
        x.feed(0x6c617567, 0x68203132, 0x33343536, 0x37383930, 0x31323334);
        x.end(10);
        due("a number without an end", x.text(), -1);
        due("fault at the end", x.fault(1), 10);
        // laugh endendendendende
        x.feed(0x6c617567, 0x6820656e, 0x64656e64, 0x656e6465, 0x6e64656e);
        x.end(9);
        due("a word without an end", x.text(), -1);
        due("fault at the end", x.fault(1), 9);
        // laugh 7;laugh 8;laug
        x.feed(0x6c617567, 0x6820373b, 0x6c617567, 0x6820383b, 0x6c617567);
        x.end(8);
        due("one line", x.text(), 1);
    }

    @Says(promise = 11, sentence = "false, changing nothing, if it has not so many, or n is below 0.")
    static void endsThatCantBe() {
        HalfAJoke x = new HalfAJoke();
        due("one of none", x.end(1), false);
        x.feed(0x6c617567, 0x6820373b, 0x20202020, 0x20202020, 0x20202020);
        for (int v : new int[] {21, 400, 401, -1, -20, MIN, MAX}) due("end " + v, x.end(v), false);
        due("twenty stay", x.feed(0, 0, 0, 0, 0), 40);
        due("twenty are", x.end(20), true);
        due("and are as they were", x.text(), 1);
    }

    @Says(promise = 12, sentence = "The TAPE, empty then, is THE LAW: how many lines.")
    static void theTapeIsEmptyThen() {
        HalfAJoke x = Scenes.halves("laugh 5;");
        due("an empty text", x.text(), 0);
        due("is the law", x.laugh(0, 1), 0);
        due("lines", x.look(8), 0);
        due("blanks alone", Check.text(x, " \n"), 0);
        due("sixteen", Check.text(x, "laugh 6;".repeat(16)), 16);
        due("empty then", x.end(1), false);
        due("twenty are twenty", x.feed(0, 0, 0, 0, 0), 20);
        due("lines", x.look(8), 16);
    }

    @Says(promise = 12, sentence = "NONE: a FAULT (it stays as it was).")
    static void theLawStaysAsItWas() {
        HalfAJoke x = Scenes.halves("laugh 5;laugh 6;");
        String[] wrong = {"laugh 1", "laugh 1;laugh 2/0;", "laugh 1;".repeat(17), "laugh 1;x"};
        for (String law : wrong) {
            due(law, Check.text(x, law), -1);
            due("the lines stay", x.look(8), 2);
            due("the law stays", x.laugh(0, 1), 5);
            due("the tape is empty", x.end(1), false);
        }
    }

    @Says(promise = 13, sentence = "Of the latest text(): what 0 the FAULT (0 without one), 1 its place (NONE).")
    static void faultOfTheLatestText() {
        HalfAJoke x = new HalfAJoke();
        due("before any", x.fault(0), 0);
        due("before any", x.fault(1), -1);
        Check.text(x, "x");
        due("one", x.fault(0), 1);
        due("at the start", x.fault(1), 0);
        x.feed(0, 0, 0, 0, 0);
        x.end(0);
        due("a tape is no text", x.fault(0), 1);
        Check.text(x, "laugh 1/0;");
        due("another", x.fault(0), 2);
        due("its place", x.fault(1), 8);
        Check.text(x, "laugh 1;");
        due("none any more", x.fault(0), 0);
        due("no place any more", x.fault(1), -1);
    }

    @Says(promise = 13, sentence = "NONE for another what.")
    static void faultOfAnotherWhat() {
        HalfAJoke x = new HalfAJoke();
        Check.text(x, "laugh 1/0;");
        for (int v : new int[] {-1, 2, 10, MIN, MAX}) due("what " + v, x.fault(v), -1);
    }

    @Says(promise = 14, sentence = "EVENINGS (1 .. 50): all LAUGHS in them.")
    static void oneToFiftyEvenings() {
        HalfAJoke x = Scenes.pair("laugh 60-told;");
        due("one", x.evenings(1), 60);
        due("one night", x.look(5), 1);
        due("fifty", x.evenings(50), 59 * 60 / 2 - 9 * 10 / 2);
        due("fifty nights", x.look(5), 51);
        HalfAJoke y = Scenes.table("laugh 999;", 8, 0, 1, 0, 1, 0, 1, 0, 1);
        due("the most", y.evenings(50), 999 * 8 * 50);
    }

    @Says(promise = 14, sentence = "NONE, and nothing is done, if one can't be")
    static void eveningsThatCantBe() {
        HalfAJoke x = busy();
        String before = Scenes.view(x);
        for (int v : new int[] {0, -1, 51, MIN, MAX}) due(v + " evenings", x.evenings(v), -1);
        Scenes.unchanged(x, before);
    }

    @Says(promise = 14, sentence = "or NIGHT would be above 9999.")
    static void noNightAbove9999() {
        HalfAJoke x = Scenes.pair("laugh 1;");
        Scenes.sleepTill(x, 9998);
        String before = Scenes.view(x);
        due("two are too many", x.evenings(2), -1);
        due("fifty too", x.evenings(50), -1);
        Scenes.unchanged(x, before);
        due("one is not", x.evenings(1), 1);
        due("the last night", x.look(5), 9999);
        due("no more", x.evenings(1), -1);
        due("told", x.told(0, 1), 9999);
        due("in thought there is", x.merry(), 1);
        due("undone", x.undo(), true);
        due("the night before", x.look(5), 9998);
        due("once more", x.evenings(1), 1);
    }

    @Says(promise = 15, sentence = "NONE if there is none such, or another what.")
    static void ofWhatIsNot() {
        HalfAJoke x = busy();
        for (int v : new int[] {-1, 2, 15, 16, MIN, MAX}) {
            for (int what : new int[] {0, 1, 2, 10, 15}) due("half " + v, x.of(v, what), -1);
        }
        for (int v : new int[] {-1, 3, 9, 16, MIN, MAX}) due("what " + v, x.of(0, v), -1);
        due("none at all", new HalfAJoke().of(0, 0), -1);
    }

    @Says(promise = 15, sentence = "Of a HALF what 0 FRONT or END, 1 JOKE, 2 WIT, 10 + f QUARTERS of FAMILY f.")
    static void ofTheLastHalf() {
        HalfAJoke x = new HalfAJoke();
        for (int i = 0; i < 15; i++) x.half(0, 0, 0, 0);
        x.half(1, 9, 99, 5);
        due("an end", x.of(15, 0), 1);
        due("joke", x.of(15, 1), 9);
        due("wit", x.of(15, 2), 99);
        due("quarters of the first", x.of(15, 10), 0);
        due("quarters of the last", x.of(15, 15), 4);
        due("a front", x.of(0, 0), 0);
    }

    @Says(promise = 16, sentence = "Of a GUEST what 0 FAMILY, 1 SEAT (NONE).")
    static void whoTheLastGuestIs() {
        HalfAJoke x = new HalfAJoke();
        for (int i = 0; i < 7; i++) x.guest(0);
        x.guest(5);
        due("family", x.who(7, 0), 5);
        due("he stands", x.who(7, 1), -1);
        x.seat(7, 5);
        due("he sits", x.who(7, 1), 5);
    }

    @Says(promise = 16, sentence = "NONE - 1 if there is none such, or another what.")
    static void whoIsNot() {
        HalfAJoke x = busy();
        for (int v : new int[] {-1, 3, 7, 8, MIN, MAX}) {
            due("guest " + v, x.who(v, 0), -2);
            due("seat of " + v, x.who(v, 1), -2);
        }
        for (int v : new int[] {-1, 2, 10, MIN, MAX}) due("what " + v, x.who(0, v), -2);
        due("nobody at all", new HalfAJoke().who(0, 1), -2);
    }

    @Says(promise = 17, sentence = "LAUGH now; NONE if one can't be (a FRONT, an END).")
    static void laughOfWhatIsNot() {
        HalfAJoke x = busy();
        due("a front and an end", x.laugh(0, 1), 49);
        int[][] wrong = {{1, 0}, {0, 0}, {1, 1}, {-1, 1}, {0, -1}, {2, 1}, {0, 2}, {16, 1}, {0, 16}, {MIN, 1}, {0, MAX}, {-1, -1}};
        for (int[] w : wrong) due(w[0] + " and " + w[1], x.laugh(w[0], w[1]), -1);
        due("without a law", Scenes.halves("").laugh(0, 1), 0);
    }

    @Says(promise = 18, sentence = "TOLD; NONE if one can't be.")
    static void toldOfWhatIsNot() {
        HalfAJoke x = busy();
        due("a front and an end", x.told(0, 1), 1);
        int[][] wrong = {{1, 0}, {0, 0}, {1, 1}, {-1, 1}, {0, -1}, {2, 1}, {0, 2}, {16, 1}, {0, 16}, {MIN, 1}, {0, MAX}, {-1, -1}};
        for (int[] w : wrong) due(w[0] + " and " + w[1], x.told(w[0], w[1]), -1);
    }

    @Says(promise = 19, sentence = "NONE if there is none, one can't be, or another what.")
    static void tellingsThatAreNot() {
        HalfAJoke x = Scenes.table("laugh 9;", 5, 0, 1, 2);
        for (int what = 0; what < 4; what++) {
            due("nothing to tell", x.telling(1, what), -1);
            due("nobody beside", x.telling(2, what), -1);
            due("nobody there", x.telling(3, what), -1);
            due("nobody there, the first beside", x.telling(4, what), -1);
            for (int v : new int[] {-1, 5, 6, 8, MIN, MAX}) due("seat " + v, x.telling(v, what), -1);
        }
        for (int v : new int[] {-1, 4, 10, MIN, MAX}) due("what " + v, x.telling(0, v), -1);
        due("there is one", x.telling(0, 3), 9);
    }

    @Says(promise = 19, sentence = "The TELLING at a SEAT now what 0 FRONT, 1 END, 2 who sets it up, 3 LAUGH.")
    static void tellingAtTheLastSeat() {
        HalfAJoke x = Scenes.halves("laugh front+end;");
        x.guest(1);
        x.guest(0);
        x.seat(1, 0);
        x.seat(0, 5);
        int[] want = {0, 1, 1, 30};
        for (int what = 0; what < 4; what++) due("what " + what, x.telling(5, what), want[what]);
        due("nothing stays", x.told(0, 1), 0);
    }

    @Says(promise = 20, sentence = "NONE if there is none such, or another what.")
    static void linesThatAreNot() {
        HalfAJoke x = Scenes.pair("laugh 1;");
        for (int what = 0; what < 6; what++) due("an empty book", x.book(0, what), -1);
        x.evenings(2);
        for (int v : new int[] {-1, 2, 99, 100, MIN, MAX}) {
            for (int what = 0; what < 6; what++) due("line " + v, x.book(v, what), -1);
        }
        for (int v : new int[] {-1, 6, 10, MIN, MAX}) due("what " + v, x.book(1, v), -1);
        due("the last line", x.book(1, 5), 1);
        x.undo();
        due("it is no more", x.book(1, 5), -1);
    }

    @Says(promise = 20, sentence = "Of line i of THE BOOK what 0 FRONT, 1 END, 2, 3 who, 4 NIGHT, 5 LAUGH.")
    static void theHundredthLine() {
        HalfAJoke x = new HalfAJoke();
        x.half(1, 0, 0, 3);
        x.half(0, 0, 0, 2);
        x.half(1, 0, 0, 1);
        for (int f : new int[] {4, 1, 2}) x.guest(f);
        x.seat(1, 4);
        x.seat(2, 5);
        Check.text(x, "laugh night;");
        x.evenings(50);
        x.evenings(50);
        x.evenings(50);
        int[] want = {1, 2, 2, 1, 100, 100};
        for (int what = 0; what < 6; what++) due("what " + what, x.book(99, what), want[what]);
        due("the first", x.book(0, 4), 1);
        due("no line 100", x.book(100, 4), -1);
    }

    @Says(promise = 21, sentence = "FAME; NONE if there is none such.")
    static void fameOfNobody() {
        HalfAJoke x = Scenes.pair("laugh 2;");
        x.give(0, 1, 0, 5);
        x.evenings(1);
        due("the first", x.fame(0), 6);
        due("the last", x.fame(5), 2);
        due("one without", x.fame(4), 0);
        for (int v : new int[] {-1, 6, MIN, MAX}) due("family " + v, x.fame(v), -1);
    }

    @Says(promise = 22, sentence = "MERRY.")
    static void merryWithoutAnybody() {
        due("nobody", new HalfAJoke().merry(), 0);
        due("one guest", Scenes.table("laugh 9;", 3, 0).merry(), 0);
        due("no law", Scenes.pair("").merry(), 0);
        due("no halves", emptyHanded().merry(), 0);
        due("a full table", Scenes.table("laugh 999;", 8, 0, 1, 0, 1, 0, 1, 0, 1).merry(), 999 * 8);
    }

    private static HalfAJoke emptyHanded() {
        HalfAJoke x = new HalfAJoke();
        Check.text(x, "laugh 9;");
        for (int i = 0; i < 6; i++) x.guest(i);
        for (int i = 0; i < 6; i++) x.seat(i, i);
        return x;
    }

    @Says(promise = 23, sentence = "NONE if there are more than eight of a kind")
    static void nineOfAKind() {
        int[] eight = {1, 2, 3, 4, 5, 6, 7, 8};
        HalfAJoke x = Scenes.wits("laugh 1;", eight, eight);
        due("eight of each", x.fit(0), 8);
        due("the first", x.fit(10), 8);
        due("the last", x.fit(25), 7);
        HalfAJoke fronts = Scenes.wits("laugh 1;", eight, new int[] {1});
        due("eight fronts", fronts.fit(0), 1);
        fronts.half(0, 0, 0, 0);
        for (int what : new int[] {0, 10, 18, 19}) due("nine fronts", fronts.fit(what), -1);
        HalfAJoke ends = Scenes.wits("laugh 1;", new int[] {1}, eight);
        due("eight ends", ends.fit(0), 1);
        ends.half(1, 0, 0, 0);
        for (int what : new int[] {0, 10, 18, 19}) due("nine ends", ends.fit(what), -1);
    }

    @Says(promise = 23, sentence = "no such HALF, or another what.")
    static void fitOfWhatIsNot() {
        HalfAJoke x = Scenes.halves("laugh 5;");
        for (int v : new int[] {-1, 1, 2, 9, 12, 25, 26, MIN, MIN + 9, MIN + 10, MAX}) due("what " + v, x.fit(v), -1);
        due("the first half", x.fit(10), 1);
        due("the last half", x.fit(11), 0);
        due("no half at all", new HalfAJoke().fit(10), -1);
    }

    @Says(promise = 23, sentence = "FIT what 0 the sum, 10 + h the partner of HALF h (NONE).")
    static void fitWithoutPartners() {
        HalfAJoke x = new HalfAJoke();
        due("of nothing", x.fit(0), 0);
        x.half(0, 0, 0, 0);
        x.half(0, 0, 0, 0);
        due("fronts alone", x.fit(0), 0);
        due("no partner", x.fit(10), -1);
        x.half(1, 0, 0, 0);
        due("no laugh, but a partner", x.fit(10), 2);
        due("none is left", x.fit(11), -1);
        due("of the end", x.fit(12), 0);
    }

    @Says(promise = 23, sentence = "FIT what 0 the sum, 10 + h the partner of HALF h (NONE).")
    static void fitOfFewerHalvesThanBefore() {
        HalfAJoke x = Scenes.wits("laugh 9;", new int[] {1, 1}, new int[] {2, 3, 4});
        x.image(true);
        for (int i = 0; i < 6; i++) x.half(0, 0, 5, 0);
        due("three ends", x.fit(0), 27);
        x.image(false);
        due("two fronts", x.fit(0), 18);
        due("the partner of the first", x.fit(10), 2);
        due("the partner of the next one", x.fit(11), 3);
        due("no partner left", x.fit(14), -1);
        due("no such half any more", x.fit(15), -1);
    }

    @Says(promise = 24, sentence = "NONE if one can't be (GUESTS 3 .. 7), or another what.")
    static void seatingsThatCantBe() {
        HalfAJoke x = Scenes.halves("laugh 9;");
        for (int guests = 0; guests <= 8; guests++) {
            boolean can = guests >= 3 && guests <= 7;
            due(guests + " guests", x.seating(0) == -1, !can);
            due("the first seat", x.seating(10), can ? 0 : -1);
            due("the last seat", x.seating(10 + guests - 1) == -1, !can);
            due("no seat", x.seating(10 + guests), -1);
            x.guest(guests % 6);
        }
        HalfAJoke y = Scenes.table("laugh 9;", 6, 0, 1, 2);
        for (int v : new int[] {-1, 1, 9, 13, 16, MIN, MIN + 9, MIN + 10, MAX}) due("what " + v, y.seating(v), -1);
    }

    @Says(promise = 24, sentence = "SEATING what 0 MERRY, 10 + i the GUEST on SEAT i.")
    static void seatingOfThreeAndSeven() {
        HalfAJoke x = Scenes.table("", 8, 0, 1, 2);
        due("nothing to laugh", x.seating(0), 0);
        for (int i = 0; i < 3; i++) due("the first row", x.seating(10 + i), i);
        HalfAJoke y = Scenes.table("laugh 9;", 8, 0, 2, 3, 4, 5, 2, 1);
        due("seven", y.seating(0), 9);
        for (int i = 0; i < 7; i++) due("the last beside the first", y.seating(10 + i), i);
    }

    @Says(promise = 25, sentence = "NONE if there is none, or another what.")
    static void changesThatAreNot() {
        HalfAJoke x = Scenes.table("laugh 9;", 6, 0, 2, 1);
        for (int v : new int[] {-1, 3, 10, MIN, MAX}) due("what " + v, x.change(v), -1);
        due("there is one", x.change(2), 9);
        HalfAJoke best = Scenes.pair("laugh 9;");
        HalfAJoke nobody = new HalfAJoke();
        for (int what = 0; what < 3; what++) {
            due("none is better", best.change(what), -1);
            due("nobody sits", nobody.change(what), -1);
        }
    }

    @Says(promise = 25, sentence = "CHANGE what 0, 1 the GUESTS, 2 by how much.")
    static void changeOfTheLastGuests() {
        HalfAJoke x = Scenes.table("laugh 9;", 8, 2, 2, 2, 2, 2, 2, 0, 2);
        x.seat(7, -1);
        due("none to laugh with", x.change(0), -1);
        HalfAJoke y = Scenes.table("laugh 9;", 8, 2, 0, 2, 2, 2, 2, 2, 1);
        due("the lesser", y.change(0), 0);
        due("the other", y.change(1), 1);
        due("by how much", y.change(2), 9);
    }

    @Says(promise = 26, sentence = "LIKE, as a set; NONE if one can't be (m 0 .. 99).")
    static void likesThatCantBe() {
        HalfAJoke x = new HalfAJoke();
        x.half(0, 0, 0, 0);
        x.half(0, 0, 99, 1);
        for (int v : new int[] {-1, 2, 15, 16, MIN, MAX}) due("half " + v, x.like(v, 5), -1);
        for (int v : new int[] {-1, 100, MIN, MAX}) due("m " + v, x.like(0, v), -1);
        due("m 99", x.like(0, 99), 2);
        due("m 98", x.like(0, 98), 0);
        due("m 0", x.like(0, 0), 0);
        due("the other way", x.like(1, 99), 1);
    }

    @Says(promise = 27, sentence = "SILENT, as a set; NONE if there is none such.")
    static void silentOfNobody() {
        HalfAJoke x = Scenes.halves("laugh 1;");
        for (int v : new int[] {-1, 6, MIN, MAX}) due("family " + v, x.silent(v), -1);
        due("the first", x.silent(0), 60);
        due("the last, with nobody", x.silent(5), 31);
    }

    @Says(promise = 28, sentence = "NONE if one can't be, or another what (n not asked for 0, 1).")
    static void worthsThatCantBe() {
        HalfAJoke x = Scenes.halves("laugh 30;");
        for (int v : new int[] {-1, 41, MIN, MAX}) {
            due("of a half behind " + v, x.worth(v, 10), -1);
            due("rounds, whatever n is", x.worth(v, 0), 0);
            due("no circle, whatever n is", x.worth(v, 1), 0);
        }
        for (int v : new int[] {-1, 2, 9, 12, 25, 26, MIN, MIN + 9, MIN + 10, MAX}) due("what " + v, x.worth(0, v), -1);
        due("no half at all", new HalfAJoke().worth(0, 10), -1);
        due("no half, settled", new HalfAJoke().worth(0, 0), 0);
    }

    @Says(promise = 28, sentence = "10 + h WORTH of HALF h behind n rounds (0 .. 40).")
    static void worthBehindNoneAndForty() {
        HalfAJoke x = Scenes.halves("laugh 50;");
        due("ahead of all", x.worth(0, 10), 10);
        due("behind one", x.worth(1, 10), 30);
        due("behind 39", x.worth(39, 10), 30);
        due("behind 40", x.worth(40, 10), 10);
        due("the last half behind 40", x.worth(40, 11), 20);
    }

    @Says(promise = 28, sentence = "WORTHS what 0 behind how many rounds (NONE: a circle, or not by 40), 1 the length of the circle (0 without one)")
    static void roundsOrACircle() {
        HalfAJoke x = Scenes.halves("laugh 30;");
        due("behind none", x.worth(0, 0), 0);
        due("no circle", x.worth(0, 1), 0);
        Check.text(x, "laugh 0;");
        due("behind one", x.worth(0, 0), 1);
        due("no circle", x.worth(0, 1), 0);
        Check.text(x, "laugh 31;");
        due("a circle", x.worth(0, 0), -1);
        due("of two", x.worth(0, 1), 2);
    }

    @Says(promise = 29, sentence = "AWAY, as a set.")
    static void awayOfAnyNumber() {
        HalfAJoke x = Scenes.table("laugh 9;", 8, 0, 1, 2, 3, 4, 5, 2, 3);
        due("without the first two", x.away(0), 3);
        due("without all others", x.away(9), 252);
        for (int v : new int[] {-1, 8, 10, MIN, MAX}) due("just " + v, x.away(v), 0);
        due("nobody", new HalfAJoke().away(0), 0);
        HalfAJoke standing = Scenes.halves("laugh 9;");
        standing.guest(0);
        due("who stands is not away", standing.away(0), 0);
    }

    @Says(promise = 30, sentence = "NONE if there is none such, or another what.")
    static void unclesThatAreNot() {
        HalfAJoke x = Scenes.pair("laugh 9;");
        for (int v : new int[] {-1, 6, MIN, MAX}) {
            due("family " + v, x.uncle(v, 0), -1);
            due("merry of " + v, x.uncle(v, 1), -1);
        }
        for (int v : new int[] {-1, 2, 10, MIN, MAX}) due("what " + v, x.uncle(0, v), -1);
    }

    @Says(promise = 30, sentence = "UNCLE what 0 to which FAMILY, 1 MERRY then.")
    static void uncleOfNothing() {
        HalfAJoke x = new HalfAJoke();
        due("the first to the next", x.uncle(0, 0), 1);
        due("the last to the first", x.uncle(5, 0), 0);
        due("nobody laughs", x.uncle(5, 1), 0);
        HalfAJoke y = Scenes.table("laugh 9;", 3, 5, 1);
        due("to the last", y.uncle(0, 0), 5);
        due("merry then", y.uncle(0, 1), 9);
        due("nothing stays", y.of(0, 15), 0);
    }

    @Says(promise = 31, sentence = "UNDO: true; false if there is nothing.")
    static void nothingToUndo() {
        HalfAJoke x = Scenes.pair("laugh 9;");
        String new1 = Scenes.view(x);
        due("nothing yet", x.undo(), false);
        Scenes.unchanged(x, new1);
        x.evenings(1);
        due("one", x.undo(), true);
        Scenes.unchanged(x, new1);
        due("nothing any more", x.undo(), false);
        Scenes.unchanged(x, new1);
    }

    @Says(promise = 32, sentence = "THE IMAGE is taken (true), or gone back to (false): true; false if there is none.")
    static void noImage() {
        HalfAJoke x = busy();
        String before = Scenes.view(x);
        due("none yet", x.image(false), false);
        Scenes.unchanged(x, before);
        due("taken", x.image(true), true);
        Scenes.unchanged(x, before);
        due("gone back to", x.image(false), true);
        due("taken anew", x.image(true), true);
        HalfAJoke fresh = new HalfAJoke();
        due("of a new object", fresh.image(true), true);
        fresh.half(0, 0, 0, 0);
        due("gone back to", fresh.image(false), true);
        due("nothing is there", fresh.look(3), 0);
    }

    @Says(promise = 33, sentence = "NONE for another what.")
    static void looksThatAreNot() {
        HalfAJoke x = Scenes.table("laugh 9;", 8, 0, 1, 2, 3, 4, 5, 0, 1);
        x.feud(0, 5, true);
        due("who is on the last seat", x.look(17), 7);
        for (int v : new int[] {-1, 18, 19, 26, 27, 100, MIN, MAX}) due("what " + v, x.look(v), -1);
        due("the first family's feuds", x.look(20), 32);
        due("the last family's feuds", x.look(25), 1);
    }

    @Says(promise = 33, sentence = "10 + i who is on SEAT i (NONE)")
    static void looksAtEmptySeats() {
        HalfAJoke x = Scenes.table("", 3, 0);
        due("he is there", x.look(10), 0);
        due("nobody", x.look(11), -1);
        due("nobody on the last", x.look(12), -1);
        due("no seat", x.look(13), -1);
        due("no seat", x.look(17), -1);
    }

    @Says(promise = 33, sentence = "9 what can be undone")
    static void looksAtWhatCanBeUndone() {
        HalfAJoke x = new HalfAJoke();
        due("nothing", x.look(9), 0);
        for (int i = 1; i <= 8; i++) {
            x.evenings(1);
            due("six at most", x.look(9), Math.min(i, 6));
        }
        for (int i = 5; i >= 0; i--) {
            x.undo();
            due("one less", x.look(9), i);
        }
        x.undo();
        due("not below nothing", x.look(9), 0);
    }

    public static void main(String[] args) throws Exception {
        Sentences.run(BoundsOfPromisesTest.class, args);
        Check.finish();
    }
}
