import java.util.ArrayDeque;
import java.util.ArrayList;
import java.util.Arrays;
import java.util.List;
import java.util.Map;
import java.util.TreeMap;

/** The document once more, as plainly as can be: everything is copied, tried and counted by its words. */
final class Model {
    record Half(int side, int joke, int wit, int[] quarters) {
        Half copy() {
            return new Half(side, joke, wit, quarters.clone());
        }
    }

    record Line(int front, int end, int opener, int closer, int night, int laugh) { }

    record Token(String text, int place) { }

    record Telling(int front, int end, int opener, int closer, int laugh) { }

    static final class World {
        List<Half> halves = new ArrayList<>();
        boolean[][] feuds = new boolean[6][6];
        int n = 6;
        int need = 2;
        int spoil = 0;
        int night = 0;
        int state = 0;
        List<int[]> guests = new ArrayList<>();
        Map<Long, Integer> told = new TreeMap<>();
        Map<Long, Integer> last = new TreeMap<>();
        List<Line> book = new ArrayList<>();
        int[] fame = new int[6];
        List<List<Token>> law = new ArrayList<>();

        World copy() {
            World w = new World();
            for (Half h : halves) w.halves.add(h.copy());
            for (int i = 0; i < 6; i++) w.feuds[i] = feuds[i].clone();
            w.n = n;
            w.need = need;
            w.spoil = spoil;
            for (int[] g : guests) w.guests.add(g.clone());
            w.law = new ArrayList<>(law);
            w.takeEveningsOf(this);
            return w;
        }

        void takeEveningsOf(World o) {
            night = o.night;
            state = o.state;
            told = new TreeMap<>(o.told);
            last = new TreeMap<>(o.last);
            book = new ArrayList<>(o.book);
            fame = o.fame.clone();
        }
    }

    World w = new World();
    World image = null;
    ArrayDeque<World> past = new ArrayDeque<>();
    StringBuilder tape = new StringBuilder();
    int fault = 0;
    int place = -1;

    static long key(int front, int end) {
        return front * 100L + end;
    }

    static boolean in(int v, int low, int high) {
        return low <= v && v <= high;
    }

    boolean forget() {
        past.clear();
        return true;
    }

    int state(int v) {
        int old = w.state;
        w.state = v;
        forget();
        return old;
    }

    int half(int end, int joke, int wit, int family) {
        if (!in(end, 0, 1) || !in(joke, 0, 9) || !in(wit, 0, 99) || !in(family, 0, 5) || w.halves.size() == 16) return -1;
        int[] q = new int[6];
        q[family] = 4;
        w.halves.add(new Half(end, joke, wit, q));
        forget();
        return w.halves.size() - 1;
    }

    boolean isHalf(int half) {
        return in(half, 0, w.halves.size() - 1);
    }

    boolean give(int half, int quarters, int from, int to) {
        if (!isHalf(half) || !in(from, 0, 5) || !in(to, 0, 5) || from == to || quarters < 1) return false;
        int[] q = w.halves.get(half).quarters();
        if (q[from] < quarters) return false;
        q[from] -= quarters;
        q[to] += quarters;
        return forget();
    }

    int heirs(int family, int set) {
        if (!in(family, 0, 5) || !in(set, 1, 63)) return -1;
        List<Integer> heirs = new ArrayList<>();
        for (int f = 0; f < 6; f++) if ((set & 1 << f) != 0) heirs.add(f);
        if (heirs.contains(family)) return -1;
        int sum = 0;
        for (Half h : w.halves) {
            int have = h.quarters()[family];
            h.quarters()[family] = 0;
            for (int i = 0; i < have; i++) h.quarters()[heirs.get(i % heirs.size())]++;
            sum += have;
        }
        forget();
        return sum;
    }

    boolean feud(int a, int b, boolean is) {
        if (!in(a, 0, 5) || !in(b, 0, 5) || a == b) return false;
        w.feuds[a][b] = is;
        w.feuds[b][a] = is;
        return forget();
    }

    int guest(int family) {
        if (!in(family, 0, 5) || w.guests.size() == 8) return -1;
        w.guests.add(new int[] {family, -1});
        forget();
        return w.guests.size() - 1;
    }

    boolean seat(int guest, int seat) {
        if (!in(guest, 0, w.guests.size() - 1) || !in(seat, -1, w.n - 1)) return false;
        if (seat != -1) {
            int there = sitter(seat);
            if (there != -1 && there != guest) return false;
        }
        w.guests.get(guest)[1] = seat;
        return forget();
    }

    int sitter(int seat) {
        for (int g = 0; g < w.guests.size(); g++) if (w.guests.get(g)[1] == seat) return g;
        return -1;
    }

    boolean set(int what, int v) {
        if (what == 0 && in(v, 3, 8)) {
            w.n = v;
            for (int[] g : w.guests) g[1] = -1;
            return forget();
        }
        if (what == 1 && in(v, 1, 4)) {
            w.need = v;
            return forget();
        }
        if (what == 2 && in(v, 0, 1000)) {
            w.spoil = v;
            return forget();
        }
        return false;
    }

    int feed(int a, int b, int c, int d, int e) {
        if (tape.length() + 20 > 400) return -1;
        for (int v : new int[] {a, b, c, d, e}) {
            for (byte x : java.nio.ByteBuffer.allocate(4).putInt(v).array()) tape.append((char) Byte.toUnsignedInt(x));
        }
        return tape.length();
    }

    boolean end(int n) {
        if (!in(n, 0, tape.length())) return false;
        tape.setLength(n);
        return true;
    }

    int text() {
        String text = tape.toString();
        tape.setLength(0);
        List<Token> tokens = split(text);
        int[] found = check(tokens, text.length());
        fault = found[0];
        place = found[1];
        if (fault != 0) return -1;
        w.law = new ArrayList<>();
        List<Token> line = new ArrayList<>();
        for (Token t : tokens) {
            line.add(t);
            if (t.text().equals(";")) {
                w.law.add(line);
                line = new ArrayList<>();
            }
        }
        return w.law.size();
    }

    static List<Token> split(String text) {
        List<Token> tokens = new ArrayList<>();
        java.util.regex.Matcher m = java.util.regex.Pattern.compile("[A-Za-z]+|[0-9]+|[ \n]+|.", java.util.regex.Pattern.DOTALL).matcher(text);
        while (m.find()) if (!m.group().isBlank() || !m.group().matches("[ \n]+")) tokens.add(new Token(m.group(), m.start()));
        return tokens;
    }

    /** A table of what may follow, with a row of what is still to come. */
    static int[] check(List<Token> tokens, int length) {
        ArrayDeque<String> due = new ArrayDeque<>();
        due.push("LAW");
        int lines = 0;
        int open = 0;
        List<Token> all = new ArrayList<>(tokens);
        all.add(new Token("", length));
        for (Token token : all) {
            String t = token.text();
            String kind = kindOf(t);
            boolean taken = false;
            while (!taken) {
                if (due.isEmpty()) return t.isEmpty() ? new int[] {0, -1} : new int[] {1, token.place()};
                String top = due.pop();
                switch (top) {
                    case "LAW" -> {
                        if (t.isEmpty()) return new int[] {0, -1};
                        come(due, "laugh", "E", "WHEN", ";", "LAW");
                    }
                    case "WHEN" -> { if (t.equals("when")) come(due, "when", "B"); }
                    case "B" -> come(due, "A", "ORS");
                    case "ORS" -> { if (t.equals("or")) come(due, "or", "A", "ORS"); }
                    case "A" -> come(due, "C", "ANDS");
                    case "ANDS" -> { if (t.equals("and")) come(due, "and", "C", "ANDS"); }
                    case "C" -> {
                        if (t.equals("not")) come(due, "not", "C", "SHUT");
                        else if (t.equals("(")) come(due, "(", "B", ")", "SHUT");
                        else come(due, "E", "COMPARE", "E");
                    }
                    case "SHUT" -> open--;
                    case "E" -> come(due, "T", "TS");
                    case "TS" -> { if (t.equals("+") || t.equals("-")) come(due, t, "T", "TS"); }
                    case "T" -> come(due, "U", "US");
                    case "US" -> {
                        if (t.equals("*")) come(due, "*", "U", "US");
                        else if (t.equals("/")) come(due, "/", "PART", "US");
                    }
                    case "U" -> {
                        if (!kind.equals("number") && !kind.equals("fact")) return new int[] {1, token.place()};
                        taken = true;
                    }
                    case "PART" -> {
                        if (!kind.equals("number")) return new int[] {1, token.place()};
                        if (Integer.parseInt(t) == 0) return new int[] {2, token.place()};
                        taken = true;
                    }
                    case "COMPARE" -> {
                        if (!t.equals("<") && !t.equals("=") && !t.equals(">")) return new int[] {1, token.place()};
                        taken = true;
                    }
                    default -> {
                        if (!top.equals(t)) return new int[] {1, token.place()};
                        if (t.equals("laugh") && ++lines == 17) return new int[] {3, token.place()};
                        if ((t.equals("not") || t.equals("(")) && ++open == 9) return new int[] {3, token.place()};
                        taken = true;
                    }
                }
            }
        }
        throw new IllegalStateException();
    }

    static void come(ArrayDeque<String> due, String... parts) {
        for (int i = parts.length - 1; i >= 0; i--) due.push(parts[i]);
    }

    static String kindOf(String t) {
        if (t.matches("[0-9]{1,4}")) return "number";
        if (List.of("front", "end", "same", "told", "since", "night", "joke").contains(t)) return "fact";
        return "other";
    }

    int fault(int what) {
        return what == 0 ? fault : what == 1 ? place : -1;
    }

    int laughOf(int front, int end) {
        Half f = w.halves.get(front);
        Half e = w.halves.get(end);
        int times = w.told.getOrDefault(key(front, end), 0);
        Map<String, Integer> facts = Map.of("front", f.wit(), "end", e.wit(), "same", f.joke() == e.joke() ? 1 : 0,
            "told", times, "since", times == 0 ? 9999 : w.night - w.last.get(key(front, end)), "night", w.night, "joke", f.joke());
        for (List<Token> line : w.law) {
            Reading r = new Reading(line, facts);
            r.at = 1;
            int value = r.sum();
            boolean is = true;
            if (line.get(r.at).text().equals("when")) {
                r.at++;
                is = r.either();
            }
            if (is) return value < 0 ? 0 : value > 999 ? 999 : value;
        }
        return 0;
    }

    static final class Reading {
        final List<Token> line;
        final Map<String, Integer> facts;
        int at;

        Reading(List<Token> line, Map<String, Integer> facts) {
            this.line = line;
            this.facts = facts;
        }

        boolean take(String t) {
            if (!line.get(at).text().equals(t)) return false;
            at++;
            return true;
        }

        boolean either() {
            boolean v = both();
            while (take("or")) v |= both();
            return v;
        }

        boolean both() {
            boolean v = clause();
            while (take("and")) v &= clause();
            return v;
        }

        boolean clause() {
            if (take("not")) return !clause();
            if (take("(")) {
                boolean v = either();
                at++;
                return v;
            }
            int a = sum();
            String sign = line.get(at++).text();
            int b = sum();
            return sign.equals("<") ? a < b : sign.equals("=") ? a == b : a > b;
        }

        int sum() {
            int v = product();
            while (true) {
                if (take("+")) v += product();
                else if (take("-")) v -= product();
                else return v;
            }
        }

        int product() {
            int v = unit();
            while (true) {
                if (take("*")) v *= unit();
                else if (take("/")) v /= unit();
                else return v;
            }
        }

        int unit() {
            String t = line.get(at++).text();
            return facts.containsKey(t) ? facts.get(t) : Integer.parseInt(t);
        }
    }

    boolean can(int family, int half) {
        return w.halves.get(half).quarters()[family] >= w.need;
    }

    boolean isFront(int half) {
        return isHalf(half) && w.halves.get(half).side() == 0;
    }

    boolean isEnd(int half) {
        return isHalf(half) && w.halves.get(half).side() == 1;
    }

    Telling tellingOf(int g, int h) {
        if (g == -1 || h == -1) return null;
        int a = w.guests.get(g)[0];
        int b = w.guests.get(h)[0];
        if (a == b || w.feuds[a][b]) return null;
        Telling best = null;
        for (int f = 0; f < w.halves.size(); f++) {
            for (int e = 0; e < w.halves.size(); e++) {
                if (!isFront(f) || !isEnd(e)) continue;
                boolean first = can(a, f) && can(b, e);
                boolean second = can(b, f) && can(a, e);
                if (!first && !second) continue;
                int v = laughOf(f, e);
                if (v > 0 && (best == null || v > best.laugh())) best = new Telling(f, e, first ? g : h, first ? h : g, v);
            }
        }
        return best;
    }

    /** An EVENING with who sits where told by a row; in thought it is played on a copy. */
    int play(int[] row, boolean thought) {
        int sum = 0;
        for (int s = 0; s < row.length; s++) {
            Telling t = tellingOf(row[s], row[(s + 1) % row.length]);
            if (t == null) continue;
            w.told.merge(key(t.front(), t.end()), 1, Integer::sum);
            w.last.put(key(t.front(), t.end()), w.night);
            int laugh = t.laugh();
            if (!thought && w.spoil > 0) {
                w.state = w.state * 1664525 + 1013904223;
                long high = (w.state & 0xffffffffL) / 256;
                if (high % 1000 < w.spoil) laugh = 0;
            }
            if (w.book.size() < 100) w.book.add(new Line(t.front(), t.end(), t.opener(), t.closer(), w.night, laugh));
            for (int f = 0; f < 6; f++) {
                w.fame[f] += laugh * (w.halves.get(t.front()).quarters()[f] + w.halves.get(t.end()).quarters()[f]);
            }
            sum += laugh;
        }
        w.night++;
        return sum;
    }

    int[] row() {
        int[] row = new int[w.n];
        for (int s = 0; s < w.n; s++) row[s] = sitter(s);
        return row;
    }

    int merryOf(int[] row) {
        World real = w;
        w = real.copy();
        int sum = play(row, true);
        w = real;
        return sum;
    }

    int evenings(int n) {
        if (!in(n, 1, 50) || w.night + n > 9999) return -1;
        int sum = 0;
        for (int i = 0; i < n; i++) {
            World before = new World();
            before.takeEveningsOf(w);
            past.addLast(before);
            if (past.size() > 6) past.removeFirst();
            sum += play(row(), false);
        }
        return sum;
    }

    int of(int half, int what) {
        if (!isHalf(half)) return -1;
        Half h = w.halves.get(half);
        if (what == 0) return h.side();
        if (what == 1) return h.joke();
        if (what == 2) return h.wit();
        return in(what, 10, 15) ? h.quarters()[what - 10] : -1;
    }

    int who(int guest, int what) {
        return in(guest, 0, w.guests.size() - 1) && in(what, 0, 1) ? w.guests.get(guest)[what] : -2;
    }

    int laugh(int front, int end) {
        return isFront(front) && isEnd(end) ? laughOf(front, end) : -1;
    }

    int told(int front, int end) {
        return isFront(front) && isEnd(end) ? w.told.getOrDefault(key(front, end), 0) : -1;
    }

    int telling(int seat, int what) {
        if (!in(seat, 0, w.n - 1) || !in(what, 0, 3)) return -1;
        Telling t = tellingOf(sitter(seat), sitter((seat + 1) % w.n));
        return t == null ? -1 : List.of(t.front(), t.end(), t.opener(), t.laugh()).get(what);
    }

    int book(int i, int what) {
        if (!in(i, 0, w.book.size() - 1) || !in(what, 0, 5)) return -1;
        Line l = w.book.get(i);
        return List.of(l.front(), l.end(), l.opener(), l.closer(), l.night(), l.laugh()).get(what);
    }

    int fame(int family) {
        return in(family, 0, 5) ? w.fame[family] : -1;
    }

    int merry() {
        return merryOf(row());
    }

    private List<Integer> fronts;
    private List<Integer> ends;
    private int[] way;
    private int[] bestWay;
    private int bestSum;

    /** All ways in the order of the partners, so that the first with the greatest sum stays. */
    void tryWays(int i, int sum) {
        if (i == fronts.size()) {
            if (sum > bestSum) {
                bestSum = sum;
                bestWay = way.clone();
            }
            return;
        }
        for (int e = 0; e <= ends.size(); e++) {
            boolean none = e == ends.size();
            int end = none ? -1 : ends.get(e);
            if (!none && Arrays.stream(way, 0, i).anyMatch(x -> x == end)) continue;
            way[i] = end;
            tryWays(i + 1, sum + (none ? 0 : laughOf(fronts.get(i), end)));
        }
    }

    int fit(int what) {
        fronts = new ArrayList<>();
        ends = new ArrayList<>();
        for (int h = 0; h < w.halves.size(); h++) (isFront(h) ? fronts : ends).add(h);
        if (fronts.size() > 8 || ends.size() > 8) return -1;
        if (what != 0 && !isHalf(what - 10)) return -1;
        way = new int[fronts.size()];
        bestSum = -1;
        tryWays(0, 0);
        if (what == 0) return bestSum;
        for (int i = 0; i < bestWay.length; i++) {
            if (fronts.get(i) == what - 10) return bestWay[i];
            if (bestWay[i] == what - 10) return fronts.get(i);
        }
        return -1;
    }

    static boolean nextRow(int[] row) {
        int i = row.length - 2;
        while (i >= 1 && row[i] > row[i + 1]) i--;
        if (i < 1) return false;
        int j = row.length - 1;
        while (row[j] < row[i]) j--;
        int t = row[i];
        row[i] = row[j];
        row[j] = t;
        Arrays.sort(row, i + 1, row.length);
        return true;
    }

    int seating(int what) {
        int n = w.guests.size();
        if (!in(n, 3, 7) || what != 0 && !in(what, 10, 10 + n - 1)) return -1;
        int[] row = new int[n];
        for (int i = 0; i < n; i++) row[i] = i;
        int most = -1;
        int[] best = null;
        do {
            int m = merryOf(row);
            if (m > most) {
                most = m;
                best = row.clone();
            }
        } while (nextRow(row));
        return what == 0 ? most : best[what - 10];
    }

    int change(int what) {
        if (!in(what, 0, 2)) return -1;
        int now = merry();
        int[] best = null;
        for (int a = 0; a < w.guests.size(); a++) {
            for (int b = a + 1; b < w.guests.size(); b++) {
                int s = w.guests.get(a)[1];
                int t = w.guests.get(b)[1];
                if (s == -1 || t == -1) continue;
                int[] row = row();
                row[s] = b;
                row[t] = a;
                int more = merryOf(row) - now;
                if (more > 0 && (best == null || more > best[2])) best = new int[] {a, b, more};
            }
        }
        return best == null ? -1 : best[what];
    }

    int like(int half, int m) {
        if (!isHalf(half) || !in(m, 0, 99)) return -1;
        int set = 0;
        Half h = w.halves.get(half);
        for (int o = 0; o < w.halves.size(); o++) {
            Half x = w.halves.get(o);
            if (o == half || x.side() != h.side() || Math.abs(x.wit() - h.wit()) > m) continue;
            boolean some = false;
            for (int f = 0; f < 6; f++) some |= x.quarters()[f] >= 1 && h.quarters()[f] == 0;
            if (some) set += 1 << o;
        }
        return set;
    }

    int silent(int family) {
        if (!in(family, 0, 5)) return -1;
        int set = 0;
        for (int o = 0; o < 6; o++) {
            if (o == family) continue;
            boolean laughs = false;
            for (int f = 0; f < w.halves.size(); f++) {
                for (int e = 0; e < w.halves.size(); e++) {
                    if (!isFront(f) || !isEnd(e)) continue;
                    boolean can = can(family, f) && can(o, e) || can(o, f) && can(family, e);
                    laughs |= can && laughOf(f, e) > 0;
                }
            }
            if (w.feuds[family][o] || !laughs) set += 1 << o;
        }
        return set;
    }

    int worth(int n, int what) {
        boolean half = isHalf(what - 10);
        if (what != 0 && what != 1 && !half) return -1;
        if (half && !in(n, 0, 40)) return -1;
        List<List<Integer>> rounds = new ArrayList<>();
        rounds.add(w.halves.stream().map(Half::wit).toList());
        for (int r = 0; r < 40; r++) {
            List<Integer> next = new ArrayList<>();
            for (int h = 0; h < w.halves.size(); h++) {
                int most = 0;
                for (int o = 0; o < w.halves.size(); o++) {
                    if (isFront(h) == isFront(o)) continue;
                    int laugh = isFront(h) ? laughOf(h, o) : laughOf(o, h);
                    most = Math.max(most, laugh - rounds.get(r).get(o));
                }
                next.add(most);
            }
            rounds.add(next);
        }
        if (half) return rounds.get(n).get(what - 10);
        for (int r = 1; r <= 40; r++) {
            int before = rounds.subList(0, r).indexOf(rounds.get(r));
            if (before == r - 1) return what == 0 ? r - 1 : 0;
            if (before >= 0) return what == 0 ? -1 : r - before;
        }
        return what == 0 ? -1 : 0;
    }

    int away(int v) {
        int set = 0;
        for (int g = 0; g < w.guests.size(); g++) {
            int s = w.guests.get(g)[1];
            if (s == -1) continue;
            int[] row = row();
            row[s] = -1;
            if (merryOf(row) == v) set += 1 << g;
        }
        return set;
    }

    int uncle(int family, int what) {
        if (!in(family, 0, 5) || !in(what, 0, 1)) return -1;
        int most = -1;
        int best = -1;
        World real = w;
        for (int to = 0; to < 6; to++) {
            if (to == family) continue;
            w = real.copy();
            for (Half h : w.halves) {
                h.quarters()[to] += h.quarters()[family];
                h.quarters()[family] = 0;
            }
            int m = merry();
            if (m > most) {
                most = m;
                best = to;
            }
        }
        w = real;
        return what == 0 ? best : most;
    }

    boolean undo() {
        if (past.isEmpty()) return false;
        w.takeEveningsOf(past.removeLast());
        return true;
    }

    boolean image(boolean taken) {
        if (taken) {
            image = w.copy();
            return true;
        }
        if (image == null) return false;
        w = image.copy();
        return forget();
    }

    int look(int what) {
        int[] plain = {w.n, w.need, w.spoil, w.halves.size(), w.guests.size(), w.night, w.book.size(), w.state, w.law.size(), past.size()};
        if (in(what, 0, 9)) return plain[what];
        if (in(what, 10, 10 + w.n - 1)) return sitter(what - 10);
        if (!in(what, 20, 25)) return -1;
        int set = 0;
        for (int f = 0; f < 6; f++) if (w.feuds[what - 20][f]) set += 1 << f;
        return set;
    }
}
