/** Each boundary case that 'Terms' names of THE LAW as a text (promises 12, 13 and 17), by its sentence. */
public final class BoundsOfLawTest {
    private static void due(String what, int got, int want) {
        Scenes.due(what, got, want);
    }

    private static void due(String what, boolean got, boolean want) {
        Scenes.due(what, got, want);
    }

    private static void says(String law, int want) {
        HalfAJoke x = Scenes.halves(law);
        due("fault of " + law, x.fault(0), 0);
        due("place of " + law, x.fault(1), -1);
        due("laugh by " + law, x.laugh(0, 1), want);
    }

    private static void is(String condition, boolean want) {
        says("laugh 1 when " + condition + ";laugh 2;", want ? 1 : 2);
    }

    private static void faulty(String law, int fault, int place) {
        HalfAJoke x = Scenes.halves("laugh 77;");
        due("text " + law, Check.text(x, law), -1);
        due("fault of " + law, x.fault(0), fault);
        due("place of " + law, x.fault(1), place);
        due("the law stays", x.laugh(0, 1), 77);
    }

    @Says(promise = 12, sentence = "THE LAW is a TEXT (empty at first) = {laugh E [when B] ;}.")
    static void noneOneOrMoreLines() {
        HalfAJoke x = new HalfAJoke();
        due("lines at first", x.look(8), 0);
        x.half(0, 3, 10, 0);
        x.half(1, 3, 20, 1);
        due("no laugh at first", x.laugh(0, 1), 0);
        says("", 0);
        says("\n", 0);
        says("laugh 1;", 1);
        says("laugh 1 when 1=1;", 1);
        says("laugh 1 when 1=2;laugh 2;", 2);
        faulty(";", 1, 0);
        faulty("laugh 1;;", 1, 8);
        faulty("laugh 1 when;", 1, 12);
        faulty("laugh when 1=1;", 1, 6);
        faulty("laugh laugh;", 1, 6);
        faulty("1 1;", 1, 0);
        faulty("laugh 1 when 1=1 when 1=1;", 1, 17);
    }

    @Says(promise = 12, sentence = "B = A {or A}. A = C {and C}. C = E (< | = | >) E | not C | ( B ).")
    static void conditionsOfOneOrMore() {
        is("1=1", true);
        is("1=2 or 1=2 or 1=1", true);
        is("1=1 and 1=1 and 1=2", false);
        is("1=1 or 1=2 and 1=2", true);
        is("1=2 and 1=2 or 1=1", true);
        is("(1=1 or 1=2) and 1=2", false);
        is("not 1=2 and 1=2", false);
        is("not (1=2 and 1=2)", true);
        is("not not 1=1", true);
        is("1<1", false);
        is("0<1", true);
        is("1>1", false);
        is("1>0", true);
        is("1=0", false);
        is("not 0<1", false);
        is("not 1>0", false);
        is("not 1<0", true);
        is("not 0>1", true);
        is("0<1 and 1=1 and 1>0", true);
        faulty("laugh 1 when 1;", 1, 14);
        faulty("laugh 1 when 1<2<3;", 1, 16);
        faulty("laugh 1 when or 1=1;", 1, 13);
        faulty("laugh 1 when 1=1 or;", 1, 19);
        faulty("laugh 1 when not;", 1, 16);
        faulty("laugh 1 when ();", 1, 14);
        faulty("laugh 1 when (1=1;", 1, 17);
        faulty("laugh 1 when 1=1);", 1, 16);
        faulty("laugh 1 when (1)=1;", 1, 15);
    }

    @Says(promise = 12, sentence = "E = T {(+ | -) T}. T = U {* U | / NUMBER}. U = NUMBER | front | end | same | told | since | night | joke.")
    static void sumsOfOneOrMore() {
        says("laugh 7;", 7);
        says("laugh 9-3-2;", 4);
        says("laugh 9-3+2;", 8);
        says("laugh 2+3*4;", 14);
        says("laugh 2*3+4;", 10);
        says("laugh 9/2*2;", 8);
        says("laugh 2*9/2;", 9);
        says("laugh 90/3/3;", 10);
        faulty("laugh -1;", 1, 6);
        faulty("laugh 1+;", 1, 8);
        faulty("laugh 1*;", 1, 8);
        faulty("laugh 1/;", 1, 8);
        faulty("laugh 1/front;", 1, 8);
        faulty("laugh (1);", 1, 6);
        faulty("laugh when;", 1, 6);
        faulty("laugh 1 1;", 1, 8);
    }

    @Says(promise = 12, sentence = "letters as many as stand together are KEYWORDS (those told here) or none;")
    static void lettersThatStandTogether() {
        says("laugh told+same when not 1=2 and 1=1 or 1=2;", 1);
        faulty("laughs 1;", 1, 0);
        faulty("laug 1;", 1, 0);
        faulty("laughfront;", 1, 0);
        faulty("laugh fronts;", 1, 6);
        faulty("laugh fron;", 1, 6);
        faulty("laugh frontfront;", 1, 6);
        faulty("laugh nightjoke;", 1, 6);
        faulty("laugh ;laugh", 1, 6);
        faulty("laugh 1 when notsame=1;", 1, 13);
        faulty("LAUGH 1;", 1, 0);
        for (String letter : new String[] {"a", "z", "A", "Z"}) faulty("laugh" + letter + " 1;", 1, 0);
        for (String other : new String[] {"`", "{", "@", "[", "_", "\u00e9"}) faulty("laugh" + other + " 1;", 1, 5);
        faulty("x".repeat(400), 1, 0);
        faulty("laugh 1 then", 1, 8);
    }

    @Says(promise = 12, sentence = "digits as many as stand together NUMBERS of 1 to 4 digits or none;")
    static void oneToFourDigits() {
        says("laugh 0;", 0);
        says("laugh 9;", 9);
        says("laugh 0009;", 9);
        says("laugh 9999/11;", 909);
        says("laugh 0000;", 0);
        faulty("laugh 10000;", 1, 6);
        faulty("laugh 00000;", 1, 6);
        faulty("laugh 00009;", 1, 6);
        faulty("laugh 1+99999;", 1, 8);
        faulty("laugh 1/12345;", 1, 8);
        faulty("laugh " + "9".repeat(390) + ";", 1, 6);
        faulty("laugh " + "9".repeat(394), 1, 6);
        for (String other : new String[] {"/", ":"}) faulty("laugh 1" + other + "1.", 1, other.equals("/") ? 9 : 7);
    }

    @Says(promise = 12, sentence = "Blanks (32, 10) between.")
    static void blanksOfTwoKinds() {
        says(" \n laugh\n1\n+\n 2 \n;\n\n ", 3);
        says("laugh1+2;", 3);
        says("laugh 1when(1=1)and(1=1)or not(1=1);", 1);
        says("laugh 1;" + " ".repeat(392), 1);
        for (char c : new char[] {0, 9, 11, 12, 13, 31, 33, 127, 160, 255}) faulty("laugh" + c + "1;", 1, 5);
        faulty("laugh 1 2;", 1, 8);
        faulty("lau gh 1;", 1, 0);
    }

    @Says(promise = 17, sentence = "Ints, which wrap; / goes towards 0.")
    static void intsThatWrap() {
        // 9999 * 9999 * 21 is 2099580021, * 22 wraps to -2095407274.
        says("laugh 9999*9999*21/9999/9999;", 21);
        is("9999*9999*22<0", true);
        is("9999*9999*21<0", false);
        is("9999*9999*21+9999*9999>0", false);
        is("0-9999*9999*21-9999*9999>0", true);
        is("0-7<0-6", true);
    }

    @Says(promise = 17, sentence = "Ints, which wrap; / goes towards 0.")
    static void partsTowardsZero() {
        says("laugh 99/100;", 0);
        says("laugh 199/100;", 1);
        says("laugh 200/100;", 2);
        // A T below 0 comes by a wrap alone: -2095407274, whose 9999th part is -209561 and some more.
        is("9999*9999*22/9999=0-9999*20-9581", true);
        is("9999*9999*22/9999/9999=0-20", true);
        // 65536 times itself is 0 by a wrap, 65536 times 32768 is the least int.
        is("8192*8*8192*8=0", true);
        is("8192*8*8192*4/1=8192*8*8192*4", true);
        is("8192*8*8192*4/3*3=8192*8*8192*4+2", true);
    }

    @Says(promise = 13, sentence = "FAULTS, the first by its place, at one place the least")
    static void theFirstByItsPlace() {
        faulty("laugh 1/0;x", 2, 8);
        faulty("x laugh 1/0;", 1, 0);
        faulty("laugh 1/0 when " + "(".repeat(9), 2, 8);
        faulty("laugh 1;".repeat(16) + "laugh 1/0;", 3, 128);
        faulty("laugh 1;".repeat(15) + "laugh 1/0;laugh 1;", 2, 128);
        faulty("laugh 1/00000;", 1, 8);
        faulty("laugh 1 when " + "(".repeat(8) + "1=1" + ")".repeat(8) + " (", 1, 33);
        faulty("laugh " + "(".repeat(9), 1, 6);
        faulty("laugh 1;".repeat(16) + "laughs 1;", 1, 128);
        faulty("laugh 1 when " + "not ".repeat(8) + "nots", 1, 45);
    }

    @Says(promise = 13, sentence = "1 what can't stand there (the end: the text's length).")
    static void theEndCantStandThere() {
        faulty("laugh", 1, 5);
        faulty("laugh ", 1, 6);
        faulty("laugh 1", 1, 7);
        faulty("laugh 1\n\n", 1, 9);
        faulty("laugh 1+", 1, 8);
        faulty("laugh 1/", 1, 8);
        faulty("laugh 1 when", 1, 12);
        faulty("laugh 1 when 1", 1, 14);
        faulty("laugh 1 when 1=", 1, 15);
        faulty("laugh 1 when not", 1, 16);
        faulty("laugh 1 when (1=1", 1, 17);
        faulty("laugh 1;laugh", 1, 13);
        faulty("laugh" + " ".repeat(395), 1, 400);
        faulty("l", 1, 0);
    }

    @Says(promise = 13, sentence = "2 (at the NUMBER) a part by 0.")
    static void aPartByZero() {
        faulty("laugh 1/0;", 2, 8);
        faulty("laugh 1/ \n0;", 2, 10);
        faulty("laugh 1/0000;", 2, 8);
        faulty("laugh 1/2/0;", 2, 10);
        faulty("laugh 1/0", 2, 8);
        faulty("laugh 1 when 1=1/0;", 2, 17);
        faulty("laugh 1 when 1=2 and 2/0=1;", 2, 23);
        says("laugh 0/1;", 0);
        says("laugh 7/1;", 7);
        says("laugh 7/0001;", 7);
        says("laugh 9/10;", 0);
        says("laugh 9999*2/9999;", 2);
        says("laugh 7*0;", 0);
    }

    @Says(promise = 13, sentence = "3 (at its KEYWORD) the 17th line;")
    static void theSeventeenthLine() {
        HalfAJoke x = Scenes.halves("");
        due("sixteen", Check.text(x, "laugh 1 when 1=2;".repeat(15) + "laugh 6;"), 16);
        due("the sixteenth counts", x.laugh(0, 1), 6);
        faulty("laugh 1;".repeat(17), 3, 128);
        faulty("laugh 1;".repeat(16) + " \nlaugh", 3, 130);
        faulty("laugh 1;".repeat(16) + "laugh ;", 3, 128);
        faulty("laugh 1;".repeat(20), 3, 128);
        faulty("laugh 1;".repeat(16) + "when", 1, 128);
        faulty("laugh 1;".repeat(16) + ";", 1, 128);
    }

    @Says(promise = 13, sentence = "(at it) the 9th ( or not that is open.")
    static void theNinthThatIsOpen() {
        is("(".repeat(8) + "1=1" + ")".repeat(8), true);
        is("not ".repeat(8) + "1=1", true);
        is("not(".repeat(4) + "1=1" + ")".repeat(4), true);
        is("not ".repeat(7) + "(1=1)", false);
        faulty("laugh 1 when " + "(".repeat(9) + "1=1" + ")".repeat(9) + ";", 3, 21);
        faulty("laugh 1 when " + "not ".repeat(9) + "1=1;", 3, 45);
        faulty("laugh 1 when " + "not(".repeat(4) + "not 1=1" + ")".repeat(4) + ";", 3, 29);
        faulty("laugh 1 when " + "not(".repeat(4) + "(1=1)" + ")".repeat(4) + ";", 3, 29);
        faulty("laugh 1 when " + "(".repeat(9), 3, 21);
        is("not ".repeat(8) + "1=1 and " + "not ".repeat(8) + "1=1 or " + "not ".repeat(8) + "1=2", true);
        is("(".repeat(8) + "1=2" + ")".repeat(8) + "or" + "(".repeat(8) + "1=1" + ")".repeat(8), true);
        is("(".repeat(7) + "not 1=1 or not 1=2 and not 1=1 or not 1=2" + ")".repeat(7), true);
        faulty("laugh 1 when " + "(".repeat(7) + "not 1=1 or not (1=1)", 3, 35);
        // Eight are open, then seven, eight, seven, eight, seven, six, and at last nine.
        faulty("laugh 1 when " + "(".repeat(8) + "1=1) or (1=1) and not 1=2) or (((", 3, 53);
    }

    @Says(promise = 10, sentence = "NONE, and nothing comes, if there would be more than 400.")
    static void theLongestTexts() {
        HalfAJoke x = Scenes.halves("");
        due("a sum of 197", Check.text(x, "laugh 1" + "+1".repeat(196) + ";"), 1);
        due("is so", x.laugh(0, 1), 197);
        due("a product", Check.text(x, "laugh 7" + "*1".repeat(196) + ";"), 1);
        due("is so", x.laugh(0, 1), 7);
        due("parts", Check.text(x, "laugh 7" + "/1".repeat(196) + ";"), 1);
        due("is so", x.laugh(0, 1), 7);
        due("or", Check.text(x, "laugh 7 when 1=2" + " or 1=2".repeat(53) + " or 1=1;"), 1);
        due("is so", x.laugh(0, 1), 7);
        due("and", Check.text(x, "laugh 7 when 1=1" + " and 1=1".repeat(46) + " and 1=2;"), 1);
        due("is not so", x.laugh(0, 1), 0);
        String nest = "1=2 or 1=1 and (";
        String tight = "1<1or 1=1and(";
        String last = "laugh 7 when " + tight.repeat(8) + "1=1" + ")".repeat(8) + ";";
        due("nested in the last line", Check.text(x, "laugh 1 when 1=2;".repeat(15) + last), 16);
        due("is so", x.laugh(0, 1), 7);
        faulty(";".repeat(400), 1, 0);
        faulty("laugh 1" + "+1".repeat(196) + " ", 1, 400);
        due("nested", Check.text(x, "laugh 7 when " + nest.repeat(8) + "1=2 or 1=1 and 1+1*1=2+0*1" + ")".repeat(8) + ";"), 1);
        due("is so", x.laugh(0, 1), 7);
    }

    public static void main(String[] args) throws Exception {
        Sentences.run(BoundsOfLawTest.class, args);
        Check.finish();
    }
}
