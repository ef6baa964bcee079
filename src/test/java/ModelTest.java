import java.lang.reflect.Method;
import java.util.ArrayList;
import java.util.Arrays;
import java.util.Comparator;
import java.util.List;
import java.util.Random;

/** Long random runs of calls, each answer held against the model's. */
public final class ModelTest {
    private static final String[] FACTS = {"front", "end", "same", "told", "since", "night", "joke"};

    private final Random random;
    private final List<Method> real = new ArrayList<>();
    private final List<Method> plain = new ArrayList<>();
    private HalfAJoke joke;
    private Model model;
    private final List<String> calls = new ArrayList<>();
    private int wrong;
    private int done;
    private final int[] bySort = new int[64];
    private int guestsWanted;

    private ModelTest(long seed) throws Exception {
        random = new Random(seed);
        for (Method m : HalfAJoke.class.getDeclaredMethods()) {
            if (java.lang.reflect.Modifier.isPublic(m.getModifiers())) real.add(m);
        }
        real.sort(Comparator.comparing(Method::getName));
        for (Method m : real) {
            Method p = Model.class.getDeclaredMethod(m.getName(), m.getParameterTypes());
            p.setAccessible(true);
            plain.add(p);
        }
    }

    private int upTo(int n) {
        return random.nextInt(n);
    }

    /** Mostly from low to high, now and then just outside or far away. */
    private int around(int low, int high) {
        int sort = upTo(60);
        if (sort == 0) return low - 1;
        if (sort == 1) return high + 1;
        if (sort == 2) return new int[] {Integer.MIN_VALUE, Integer.MAX_VALUE, -2, -1, 0, 1, 10, Integer.MIN_VALUE + 9}[upTo(8)];
        return low + upTo(high - low + 1);
    }

    private int call(String name, Object... args) throws Exception {
        int i = 0;
        while (!real.get(i).getName().equals(name)) i++;
        Object got = real.get(i).invoke(joke, args);
        Object due = plain.get(i).invoke(model, args);
        calls.add(name + Arrays.toString(args) + " = " + got);
        done++;
        bySort[i]++;
        if (!got.equals(due)) {
            wrong++;
            if (wrong < 4) {
                System.out.println("due is " + due + " behind these calls:");
                for (String c : calls) System.out.println("  " + c);
            }
        }
        return got instanceof Integer v ? v : (Boolean) got ? 1 : 0;
    }

    private String sum(int size) {
        StringBuilder s = new StringBuilder(unit());
        for (int i = upTo(size); i > 0; i--) {
            int sort = upTo(5);
            if (sort == 0) s.append("/").append(1 + upTo(random.nextBoolean() ? 9 : 9999));
            else s.append("*+-+".charAt(sort - 1)).append(unit());
        }
        return s.toString();
    }

    private String unit() {
        if (upTo(3) == 0) return String.valueOf(upTo(random.nextBoolean() ? 20 : random.nextBoolean() ? 100 : 10000));
        return FACTS[upTo(FACTS.length)];
    }

    private String condition(int open) {
        StringBuilder s = new StringBuilder(clause(open));
        for (int i = upTo(3); i > 0; i--) s.append(random.nextBoolean() ? " and " : " or ").append(clause(open));
        return s.toString();
    }

    private String clause(int open) {
        int sort = upTo(open > 9 ? 2 : 5);
        if (sort == 3) return "not " + clause(open + 1);
        if (sort == 4) return "(" + condition(open + 1) + ")";
        return sum(2) + "<=>".charAt(upTo(3)) + sum(2);
    }

    private String law() {
        StringBuilder s = new StringBuilder();
        int lines = upTo(8) == 0 ? 14 + upTo(5) : 1 + upTo(4);
        for (int i = 0; i < lines; i++) {
            s.append("laugh ").append(sum(lines > 9 ? 1 : 5));
            if (i < lines - 1 || upTo(3) == 0) s.append(" when ").append(lines > 9 ? "night=" + i : condition(0));
            s.append(";").append(" \n".charAt(upTo(2)));
        }
        return s.toString();
    }

    private String goodLaw() {
        String[] laws = {
            "laugh front+end;", "laugh front*end/9 - told*7;", "laugh 50-told*9 when same=1; laugh front/2 when since>2;",
            "laugh 9 when same=1;", "laugh front-end when front>end; laugh end-front when not front=end or night>3; laugh 1;",
            "laugh front+end-told*3 when not(same=0 and told>1);", "laugh since when since<9; laugh joke*10+same;",
            "laugh front*end; ", "laugh told+1;", "laugh 1;", "", "laugh front * 17 - end * 13 + joke * 29 - told * 31;",
            "laugh 300 - front when end > 40; laugh 2 + told * told * 5 when told < 4; laugh 3;"};
        return laws[upTo(laws.length)];
    }

    private String damaged(String text) {
        String[] bits = {"(", ")", "not ", " and ", " or ", ";", "<", "=", "laugh ", " when ", "0", "/0", "12345", "x", "end", "#", "\t", "+", "A", "\u00e9", " ", "/00", "*"};
        StringBuilder s = new StringBuilder(text);
        for (int i = 1 + upTo(2); i > 0; i--) {
            int at = upTo(s.length() + 1);
            int sort = upTo(3);
            if (sort == 0 && at < s.length()) s.deleteCharAt(at);
            else if (sort == 1) s.insert(at, bits[upTo(bits.length)]);
            else s.setLength(at);
        }
        return s.toString();
    }

    private void tell(String text) throws Exception {
        String t = text.length() > 400 ? text.substring(0, 400) : text;
        call("end", 0);
        for (int i = 0; i < t.length(); i += 20) {
            int[] v = new int[5];
            for (int k = 0; k < 20; k++) v[k / 4] = v[k / 4] << 8 | (i + k < t.length() ? t.charAt(i + k) : ' ');
            call("feed", v[0], v[1], v[2], v[3], v[4]);
        }
        call("end", t.length());
        if (upTo(10) == 0) call("end", t.length() + upTo(2));
        call("text");
        call("fault", 0);
        call("fault", 1);
        call("look", 8);
    }

    private void start() throws Exception {
        joke = new HalfAJoke();
        model = new Model();
        calls.clear();
        guestsWanted = upTo(9);
        call("state", random.nextInt());
        int halves = upTo(17);
        if (upTo(3) > 0) halves = Math.min(halves, 10);
        for (int i = 0; i < halves; i++) call("half", upTo(10) < 8 ? i % 2 : upTo(2), upTo(4), upTo(random.nextBoolean() ? 100 : 20), upTo(6));
        if (random.nextBoolean()) call("set", 0, 3 + upTo(6));
        for (int i = 0; i < guestsWanted; i++) {
            call("guest", upTo(6));
            call("seat", i, upTo(9) - 1);
        }
        for (int i = upTo(12); i > 0; i--) call("give", around(0, 15), 1 + upTo(2), upTo(6), upTo(6));
        if (random.nextBoolean()) call("set", 1, 1 + upTo(3));
        if (random.nextBoolean()) call("set", 2, upTo(2) * upTo(1001));
        tell(upTo(3) == 0 ? law() : goodLaw());
    }

    private void step() throws Exception {
        switch (upTo(52)) {
            case 0 -> call("state", random.nextInt());
            case 1 -> call("half", around(0, 1), around(0, 9), around(0, 99), around(0, 5));
            case 2, 3 -> call("give", around(0, 9), around(1, 3), around(0, 5), around(0, 5));
            case 4 -> { if (upTo(4) == 0) call("heirs", around(0, 5), around(0, 63)); }
            case 5 -> call("feud", around(0, 5), around(0, 5), upTo(3) == 0);
            case 6 -> { if (upTo(3) == 0) call("guest", around(0, 5)); }
            case 7, 8 -> call("seat", around(0, 7), around(-1, 7));
            case 9 -> { if (upTo(4) == 0) call("set", 0, around(3, 8)); }
            case 10 -> call("set", 1, around(1, 4));
            case 11 -> call("set", around(0, 3), around(0, 1000));
            case 12 -> tell(law());
            case 13 -> tell(damaged(law()));
            case 14 -> tell(damaged(goodLaw()));
            case 15 -> tell(goodLaw());
            case 16, 17, 18, 19 -> call("evenings", around(1, 3));
            case 20 -> { if (upTo(4) == 0) call("evenings", around(0, 50)); }
            case 21 -> call("of", around(0, 15), around(0, 15));
            case 22 -> call("who", around(0, 7), around(0, 1));
            case 23, 24 -> call("laugh", around(0, 15), around(0, 15));
            case 25 -> call("told", around(0, 15), around(0, 15));
            case 26, 27 -> call("telling", around(0, 7), around(0, 3));
            case 28, 29 -> call("book", around(0, 40), around(0, 5));
            case 30 -> call("fame", around(0, 5));
            case 31 -> call("merry");
            case 32 -> { if (model.w.halves.size() < 13 || upTo(60) == 0) call("fit", 0); }
            case 33 -> { if (model.w.halves.size() < 13) call("fit", around(9, 25)); }
            case 34 -> { if (model.w.guests.size() < 7 || upTo(20) == 0) call("seating", around(0, 0)); }
            case 35 -> { if (model.w.guests.size() < 7 || upTo(20) == 0) call("seating", around(9, 17)); }
            case 36, 37 -> { for (int i = 0; i < 3; i++) call("change", i); call("change", around(0, 3)); }
            case 38 -> call("like", around(0, 15), around(0, 99));
            case 39 -> call("silent", around(0, 5));
            case 40 -> call("worth", around(0, 40), 0);
            case 41 -> call("worth", around(0, 40), 1);
            case 42, 43 -> call("worth", around(0, 40), around(9, 26));
            case 44 -> call("away", call("merry") - (random.nextBoolean() ? 0 : upTo(30)));
            case 45 -> call("away", around(0, 5));
            case 46 -> call("uncle", around(0, 5), around(0, 1));
            case 47, 48 -> { for (int i = upTo(8); i >= 0; i--) call("undo"); }
            case 49 -> { if (upTo(3) > 0) call("image", upTo(4) == 0); }
            case 50 -> call("fault", around(0, 2));
            default -> call("look", around(0, 27));
        }
    }

    private void lookAtAll() throws Exception {
        for (int i = 0; i < 28; i++) call("look", i);
        for (int i = 0; i < 6; i++) call("fame", i);
        for (int i = 0; i < 8; i++) call("who", i, 1);
        for (int i = 0; i < model.w.book.size(); i++) for (int k = 0; k < 6; k++) call("book", i, k);
        for (int f = 0; f < 16; f++) {
            for (int e = 0; e < 16; e++) {
                call("told", f, e);
                call("laugh", f, e);
            }
            for (int k = 10; k < 16; k++) call("of", f, k);
        }
    }

    public static void main(String[] args) throws Exception {
        int runs = args.length > 0 ? Integer.parseInt(args[0]) : 300;
        long seed = args.length > 1 ? Long.parseLong(args[1]) : 20261118L;
        ModelTest test = new ModelTest(seed);
        for (int run = 0; run < runs && test.wrong == 0; run++) {
            test.start();
            while (test.calls.size() < 500) test.step();
            test.lookAtAll();
        }
        System.out.println(test.done + " calls, " + test.wrong + " answered otherwise than the model");
        if (args.length > 0) for (int i = 0; i < test.real.size(); i++) System.out.println(test.real.get(i).getName() + " " + test.bySort[i]);
        if (test.wrong != 0) System.exit(1);
    }
}
