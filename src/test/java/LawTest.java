/** THE LAW as a text: what it says, and each FAULT at its place (promises 10 to 13 and 17). */
public final class LawTest {
    private static HalfAJoke two() {
        HalfAJoke x = new HalfAJoke();
        x.half(0, 3, 10, 0);
        x.half(1, 3, 20, 1);
        x.half(1, 4, 99, 1);
        return x;
    }

    private static void says(String law, int want) {
        HalfAJoke x = two();
        Check.text(x, law);
        Check.due("fault of " + law, x.fault(0), 0);
        Check.due("place of " + law, x.fault(1), -1);
        Check.due("laugh by " + law, x.laugh(0, 1), want);
    }

    private static void faulty(String law, int fault, int place) {
        HalfAJoke x = two();
        Check.text(x, "laugh 77;");
        Check.due("text " + law, Check.text(x, law), -1);
        Check.due("fault of " + law, x.fault(0), fault);
        Check.due("place of " + law, x.fault(1), place);
        Check.due("the law stays", x.laugh(0, 1), 77);
        Check.due("the tape is empty", x.end(1), false);
    }

    private static void is(String condition, boolean want) {
        says("laugh 1 when " + condition + ";laugh 2;", want ? 1 : 2);
    }

    private static void sums() {
        says("", 0);
        says(" \n ", 0);
        says("laugh front;", 10);
        says("laugh end;", 20);
        says("laugh same;", 1);
        says("laugh told;", 0);
        says("laugh since/10;", 999);
        says("laugh night;", 0);
        says("laugh joke;", 3);
        says("laugh\nfront\n+ end;", 30);
        says("laugh front+end*joke;", 70);
        says("laugh 2+3*4-5;", 9);
        says("laugh 100-20-30;", 50);
        says("laugh 7/2*2;", 6);
        says("laugh 2*7/2;", 7);
        says("laugh 100/7/2;", 7);
        says("laugh 0009+1;", 10);
        says("laugh9;", 9);
        says("laugh 9999;", 999);
        says("laugh 999;", 999);
        says("laugh 1000;", 999);
        says("laugh 1-2;", 0);
        says("laugh 0;", 0);
        says("laugh front-end;", 0);
        says("laugh 8-7/2;", 5);
        says("laugh joke-10*same;", 0);
        // 9999 * 9999 * 9999 wraps to -1027349969; downwards both parts of it would end at 9.
        says("laugh 9999*9999*9999;", 0);
        says("laugh 9999*9999*9999/9999/9999+20;", 10);
        // 60000 * 60000 wraps to -694967296; downwards it would be 5.
        says("laugh 6000*10*6000*10/1000+9999*69+5042;", 6);
    }

    private static void conditions() {
        is("1<2", true);
        is("2<2", false);
        is("2=2", true);
        is("1=2", false);
        is("3>2", true);
        is("2>2", false);
        is("not 1<2", false);
        is("not not 1<2", true);
        is("1=2 or 1=1", true);
        is("1=1 and 1=2", false);
        is("1=1 or 1=1 and 1=2", true);
        is("(1=1 or 1=1) and 1=2", false);
        is("1=2 and 1=2 or 1=1", true);
        is("1=2 and (1=2 or 1=1)", false);
        is("not 1=2 and 1=2", false);
        is("not(1=2 and 1=2)", true);
        is("not 1=1 or 1=1", true);
        is("not(1=1 or 1=1)", false);
        is("1<2and 3<4or 5<4", true);
        is("front+end=30 and same=1", true);
        is("since=9999", true);
        is("1-4<0", true);
        is("9999*9999*30<0", true);
        says("laugh 1 when 1=2;", 0);
        says("laugh 1 when 1=2;laugh 2 when 1=1;laugh 3;", 2);
        says("laugh 3;laugh 2 when 1=1;", 3);
    }

    private static void cantStand() {
        faulty("x", 1, 0);
        faulty(";", 1, 0);
        faulty("1", 1, 0);
        faulty("when", 1, 0);
        faulty("laugh", 1, 5);
        faulty("laugh  ", 1, 7);
        faulty("laugh ;", 1, 6);
        faulty("laugh 1", 1, 7);
        faulty("laugh 1 ", 1, 8);
        faulty("laugh 1 2;", 1, 8);
        faulty("laugh 1+;", 1, 8);
        faulty("laugh +1;", 1, 6);
        faulty("laugh 1*/2;", 1, 8);
        faulty("laugh 1/front;", 1, 8);
        faulty("laugh 1/;", 1, 8);
        faulty("laugh (1);", 1, 6);
        faulty("laugh 1 when;", 1, 12);
        faulty("laugh 1 when 1;", 1, 14);
        faulty("laugh 1 when 1=;", 1, 15);
        faulty("laugh 1 when 1=2=3;", 1, 16);
        faulty("laugh 1 when 1=2);", 1, 16);
        faulty("laugh 1 when (1=2;", 1, 17);
        faulty("laugh 1 when ((1=2);", 1, 19);
        faulty("laugh 1 when ();", 1, 14);
        faulty("laugh 1 when (1)=1;", 1, 15);
        faulty("laugh 1 when (1=1)=1;", 1, 18);
        faulty("laugh 1 when 1=1 and;", 1, 20);
        faulty("laugh 1 when or;", 1, 13);
        faulty("laugh 1 when 1=1 not 1=1;", 1, 17);
        faulty("laugh 1 when 1=1 when 1=1;", 1, 17);
        faulty("laugh laugh;", 1, 6);
        faulty("laugh 1;;", 1, 8);
        faulty("laugh 1; 7", 1, 9);
    }

    private static void noTokens() {
        faulty("laughs 1;", 1, 0);
        faulty("laug 1;", 1, 0);
        faulty("Laugh 1;", 1, 0);
        for (String letter : new String[] {"a", "z", "A", "Z"}) {
            faulty("laugh" + letter + " 1;", 1, 0);
        }
        for (String other : new String[] {"`", "{", "@", "[", ".", ",", ":", "?", "!", "_", "\"", "\u00c0", "\u007f"}) {
            faulty("laugh" + other + " 1;", 1, 5);
            faulty("laugh 1" + other + ";", 1, 7);
        }
        faulty("laugh frontend;", 1, 6);
        faulty("laugh fron;", 1, 6);
        faulty("laugh 12345;", 1, 6);
        faulty("laugh 00000;", 1, 6);
        faulty("laugh 1/00000;", 1, 8);
        faulty("laugh 1#;", 1, 7);
        faulty("laugh\t1;", 1, 5);
        faulty("laugh\r1;", 1, 5);
        faulty("laugh\u00001;", 1, 5);
        faulty("laugh \u00e9;", 1, 6);
        faulty("laugh 1 when 1\u00ff2;", 1, 14);
    }

    private static void tooMuch() {
        faulty("laugh 1/0;", 2, 8);
        faulty("laugh 1/0000;", 2, 8);
        faulty("laugh 1 when 1=2/ 0;", 2, 18);
        faulty("laugh 1/0 #", 2, 8);
        faulty("laugh # 1/0;", 1, 6);
        faulty("laugh 1;".repeat(17), 3, 128);
        faulty("laugh 1;".repeat(16) + "  laugh", 3, 130);
        faulty("laugh 1;".repeat(16) + "when", 1, 128);
        faulty("laugh 1 when " + "(".repeat(9) + "1=1" + ")".repeat(9) + ";", 3, 21);
        faulty("laugh 1 when " + "not ".repeat(9) + "1=1;", 3, 45);
        faulty("laugh 1 when " + "not(".repeat(3) + "not 1=1 and not not not 1=1", 3, 45);
        faulty("laugh 1 when " + "(".repeat(8) + "1=1" + ")".repeat(7) + ";", 1, 31);
        faulty("laugh " + "(".repeat(9), 1, 6);
        Check.due("16 lines", Check.text(new HalfAJoke(), "laugh 1;".repeat(16)), 16);
        is("(".repeat(8) + "1=1" + ")".repeat(8), true);
        is("not ".repeat(8) + "1=1", true);
        is("not(".repeat(4) + "1=1" + ")".repeat(4), true);
        is("not ".repeat(8) + "1=1 and " + "not ".repeat(8) + "1=1", true);
        is("(".repeat(8) + "1=2" + ")".repeat(8) + " or " + "(".repeat(8) + "1=1" + ")".repeat(8), true);
        // As many values wait on one another as a text can make wait.
        is("1=2 or 1=1 and (".repeat(8) + "1=2 or 1=1 and 1+2*3=7" + ")".repeat(8), true);
    }

    private static void tape() {
        HalfAJoke x = two();
        Check.due("fault(0) before a text", x.fault(0), 0);
        Check.due("fault(1) before a text", x.fault(1), -1);
        Check.due("fault(2)", x.fault(2), -1);
        Check.due("fault(-1)", x.fault(-1), -1);
        // laugh 12;   then blanks
        Check.due("feed", x.feed(0x6c617567, 0x68203132, 0x3b202020, 0x20202020, 0x20202020), 20);
        Check.due("end(21)", x.end(21), false);
        Check.due("end(-1)", x.end(-1), false);
        Check.due("end(20)", x.end(20), true);
        Check.due("text", x.text(), 1);
        Check.due("laugh", x.laugh(0, 1), 12);
        for (int i = 1; i <= 20; i++) {
            Check.due("feed " + i, x.feed(-1, 0, 0, 0, 0), 20 * i);
        }
        Check.due("feed 21", x.feed(0, 0, 0, 0, 0), -1);
        Check.due("end(399)", x.end(399), true);
        Check.due("feed to 419", x.feed(0, 0, 0, 0, 0), -1);
        Check.due("end(400)", x.end(400), false);
        Check.due("end(380)", x.end(380), true);
        Check.due("feed to 400", x.feed(0, 0, 0, 0, 0), 400);
        Check.due("text of 400", x.text(), -1);
        Check.due("fault", x.fault(0), 1);
        Check.due("place", x.fault(1), 0);
        Check.due("text of nothing", x.text(), 0);
        Check.due("no fault any more", x.fault(0), 0);
        Check.due("no place any more", x.fault(1), -1);
        Check.due("no law any more", x.laugh(0, 1), 0);
        String full = "laugh 1;" + " ".repeat(384) + "laugh 2;";
        Check.due("a text of 400", Check.text(x, full), 2);
        String dense = "laugh 1" + "+1".repeat(196) + ";";
        Check.due("a dense text of 400", Check.text(x, dense), 1);
        Check.due("a dense laugh", x.laugh(0, 1), 197);
    }

    public static void main(String[] args) {
        sums();
        conditions();
        cantStand();
        noTokens();
        tooMuch();
        tape();
        Check.finish();
    }
}
