import java.util.ArrayList;
import java.util.Arrays;
import java.util.List;

/**
 * The document again, told the slow way: every night by lists, every PLAN written out, RULES judged by
 * splitting their words. It shares nothing with the class, so that the two can be held against one another.
 */
final class Model {
    static final int BAD = -1, FULL = -2, NONE = -3, STATE = -4;
    private static final List<String> KINDS = List.of("oven", "widowed", "range", "doored", "portable", "rake");
    private static final List<String> DOS = List.of("go", "stay", "shy");
    private static final List<String> FACTS = List.of("night", "warm", "place", "fire", "number");
    private static final int[] PARENT = {-1, 0, 0, 2, 0, 4};

    private static final class One {
        int kind, warm, place, fire, away, number;

        One copy() {
            One c = new One();
            c.kind = kind; c.warm = warm; c.place = place; c.fire = fire; c.away = away; c.number = number;
            return c;
        }
    }

    private static final class Rule {
        int kind, will;
        List<String> condition = new ArrayList<>();
    }

    private static final class Sheet {
        int sort;
        long[] items;
    }

    private static final class DividedByZero extends RuntimeException {
        private static final long serialVersionUID = 1L;
    }

    private List<One> ovens = new ArrayList<>();
    private List<Rule> rules = new ArrayList<>();
    private List<int[]> reports = new ArrayList<>();
    private int night = 0, end = 12, score = 0, z = 1;
    private StringBuilder tape = new StringBuilder();
    private List<int[]> rows = new ArrayList<>();
    private final Sheet[] sheets = new Sheet[4];
    private final Object[] shelves = new Object[4];
    private List<Integer> trace = new ArrayList<>();
    private Model kept;

    // ---- state that can be copied

    private static List<One> copyOf(List<One> these) {
        List<One> copy = new ArrayList<>();
        for (One o : these) copy.add(o.copy());
        return copy;
    }

    private void become(Model that) {
        ovens = copyOf(that.ovens);
        rules = new ArrayList<>(that.rules);
        reports = new ArrayList<>(that.reports);
        night = that.night; end = that.end; score = that.score; z = that.z;
    }

    // ---- what is told in the terms

    private static boolean under(int kind, int above) {
        for (int k = kind; k >= 0; k = PARENT[k]) if (k == above) return true;
        return false;
    }

    private static int longs(One one, One that) {
        int plain = that.warm - Math.abs(one.place - that.place);
        switch (KINDS.get(one.kind)) {
            case "widowed": return plain - 3;
            case "range": return that.warm >= one.warm ? plain : -1;
            case "doored": return -1;
            case "portable": return that.warm;
            case "rake": return that.warm + (that.number > one.number ? 2 : 0);
            default: throw new IllegalStateException();
        }
    }

    private static int bakes(One one, int night) {
        switch (KINDS.get(one.kind)) {
            case "widowed": return one.fire / 2;
            case "range": return 2 * one.fire;
            case "doored": return 2 * one.fire + 1;
            case "portable": return one.fire;
            case "rake": return night % 2 == 1 ? 0 : one.fire;
            default: throw new IllegalStateException();
        }
    }

    private int will(One one, int at) {
        for (Rule r : rules) {
            if (under(one.kind, r.kind) && (r.condition.isEmpty() || holds(r.condition, one, at))) return r.will;
        }
        return 0;
    }

    private static List<List<String>> splitAt(List<String> words, String sign) {
        List<List<String>> parts = new ArrayList<>();
        List<String> part = new ArrayList<>();
        int depth = 0;
        for (String w : words) {
            if (w.equals("(")) depth++;
            if (w.equals(")")) depth--;
            if (depth == 0 && w.equals(sign)) {
                parts.add(part);
                part = new ArrayList<>();
            } else {
                part.add(w);
            }
        }
        parts.add(part);
        return parts;
    }

    private boolean holds(List<String> words, One one, int at) {
        List<List<String>> alls = splitAt(words, "or");
        if (alls.size() > 1) return alls.stream().anyMatch(a -> holds(a, one, at));
        List<List<String>> ones = splitAt(words, "and");
        if (ones.size() > 1) return ones.stream().allMatch(a -> holds(a, one, at));
        if (words.get(0).equals("not")) return !holds(words.subList(1, words.size()), one, at);
        if (words.get(0).equals("(")) return holds(words.subList(1, words.size() - 1), one, at);
        int left = value(words.get(0), one, at), right = value(words.get(2), one, at);
        switch (words.get(1)) {
            case "<": return left < right;
            case "=": return left == right;
            default: return left > right;
        }
    }

    private static int value(String word, One one, int at) {
        switch (word) {
            case "night": return at;
            case "warm": return one.warm;
            case "place": return one.place;
            case "fire": return one.fire;
            case "number": return one.number;
            default: return Integer.parseInt(word);
        }
    }

    private boolean free(One one, int at, int chained) {
        return one.away == 0 && (chained >> one.number & 1) == 0 && will(one, at) != 1;
    }

    private int choice(List<One> town, One one, int at, int chained) {
        if (!free(one, at, chained)) return 6;
        int above = will(one, at) == 2 ? 3 : 0;
        One best = null;
        for (One that : town) {
            if (that == one || !free(that, at, chained) || longs(one, that) <= above) continue;
            if (best == null || longs(one, that) > longs(one, best)) best = that;
        }
        return best == null ? 6 : best.number;
    }

    /** Returns those who went off; what it was WORTH is worth[0]. */
    private int pass(List<One> town, int at, int chained, int[] worth) {
        for (One one : town) if (one.away > 0) one.away--;
        int[] choices = new int[town.size()];
        for (One one : town) choices[one.number] = choice(town, one, at, chained);
        int went = 0;
        for (One one : town) {
            int c = choices[one.number];
            if (c < 6 && choices[c] == one.number) {
                went |= 1 << one.number;
            }
        }
        for (One one : town) {
            if ((went >> one.number & 1) != 0) {
                one.away = 2 + Math.abs(one.place - town.get(choices[one.number]).place) / 4;
            }
        }
        worth[0] = 0;
        for (One one : town) if (one.away == 0) worth[0] += bakes(one, at);
        return went;
    }

    private static int homes(List<One> town) {
        int set = 0;
        for (One one : town) if (one.away == 0) set |= 1 << one.number;
        return set;
    }

    private int passNow(int act) {
        int[] worth = new int[1];
        pass(ovens, night, act == 0 ? 0 : 1 << (act - 1), worth);
        score += worth[0];
        night++;
        return worth[0];
    }

    private boolean is(int o) { return o >= 0 && o < ovens.size(); }

    // ---- ovens

    int oven(int kind, int warm, int place, int fire) {
        if (kind < 1 || kind > 5 || warm < 0 || warm > 9 || place < 0 || place > 15 || fire < 1 || fire > 9) return BAD;
        if (ovens.size() == 6) return FULL;
        One one = new One();
        one.kind = kind; one.warm = warm; one.place = place; one.fire = fire; one.number = ovens.size();
        ovens.add(one);
        return one.number;
    }

    int ovenOf(int o, int what) {
        if (!is(o) || what < 0 || what > 7) return BAD;
        One one = ovens.get(o);
        return new int[] {one.kind, one.warm, one.place, one.fire, one.away, bakes(one, night), will(one, night),
            choice(ovens, one, night, 0)}[what];
    }

    int change(int o, int what, int v) {
        if (!is(o) || what < 1 || what > 4) return BAD;
        int least = what == 3 ? 1 : 0, most = what == 2 ? 15 : 9;
        if (v < least || v > most) return BAD;
        int was = ovenOf(o, what);
        One one = ovens.get(o);
        if (what == 1) one.warm = v;
        if (what == 2) one.place = v;
        if (what == 3) one.fire = v;
        if (what == 4) one.away = v;
        return was;
    }

    int remake(int o, int kind) {
        if (!is(o) || kind < 1 || kind > 5) return BAD;
        int was = ovens.get(o).kind;
        ovens.get(o).kind = kind;
        return was;
    }

    int longing(int o, int other) {
        return is(o) && is(other) && o != other ? 100 + longs(ovens.get(o), ovens.get(other)) : BAD;
    }

    int ends(int v) {
        if (v < 1 || v > 16) return BAD;
        if (v < night) return STATE;
        int was = end;
        end = v;
        return was;
    }

    int anew() {
        int was = night;
        night = 0;
        score = 0;
        for (One one : ovens) one.away = 0;
        return was;
    }

    int state(int what) {
        if (what < 0 || what > 4) return BAD;
        return new int[] {night, end, score, night >= end ? 1 : 0, homes(ovens)}[what];
    }

    // ---- the rules

    int feed(long eight, int n) {
        if (n < 1 || n > 8) return BAD;
        if (tape.length() + n > 200) return FULL;
        for (int i = 0; i < n; i++) tape.append((char) (eight >> (8 * i) & 255));
        return tape.length();
    }

    /** A machine that knows, at each word, which ones may stand there. */
    int rules() {
        String text = tape.toString();
        tape = new StringBuilder();
        List<Rule> told = new ArrayList<>();
        Rule rule = null;
        String expects = "kind";
        int open = 0, p = 0;
        while (p < text.length()) {
            if (text.charAt(p) == ' ') { p++; continue; }
            int q = p + 1;
            String run = letter(text.charAt(p)) ? "l" : digit(text.charAt(p)) ? "d" : "";
            while (q < text.length() && (run.equals("l") && letter(text.charAt(q)) || run.equals("d") && digit(text.charAt(q)))) q++;
            String w = text.substring(p, q);
            boolean isValue = FACTS.contains(w) || run.equals("d") && w.length() <= 4;
            boolean isSign = w.equals("<") || w.equals("=") || w.equals(">");
            String then = null;
            switch (expects) {
                case "kind":
                    if (KINDS.contains(w) && told.size() < 8) { rule = new Rule(); rule.kind = KINDS.indexOf(w); then = "do or if"; }
                    break;
                case "do or if":
                    if (w.equals("if")) then = "one";
                    if (DOS.contains(w)) { rule.will = DOS.indexOf(w); then = ";"; }
                    break;
                case "one":
                    if (w.equals("not")) then = "one";
                    if (w.equals("(") && open < 3) { open++; then = "one"; }
                    if (isValue) then = "sign";
                    break;
                case "sign":
                    if (isSign) then = "value";
                    break;
                case "value":
                    if (isValue) then = "behind one";
                    break;
                case "behind one":
                    if (w.equals("and") || w.equals("or")) then = "one";
                    if (w.equals(")") && open > 0) { open--; then = "behind one"; }
                    if (DOS.contains(w) && open == 0) { rule.will = DOS.indexOf(w); then = ";"; }
                    break;
                default:
                    if (w.equals(";")) { told.add(rule); then = "kind"; }
            }
            if (then == null) return -100 - p;
            boolean inCondition = List.of("one", "sign", "value", "behind one").contains(then) && !w.equals("if");
            if (inCondition) rule.condition.add(w);
            expects = then;
            p = q;
        }
        if (!expects.equals("kind")) return -100 - text.length();
        rules = told;
        return told.size();
    }

    private static boolean letter(char c) { return c >= 'a' && c <= 'z'; }

    private static boolean digit(char c) { return c >= '0' && c <= '9'; }

    // ---- nights

    int night() { return night >= end ? STATE : passNow(0); }

    int on(int n) {
        if (n < 0 || n > 16) return BAD;
        List<One> town = copyOf(ovens);
        int sum = 0;
        int[] worth = new int[1];
        for (int at = night; at < end && at < night + n; at++) {
            pass(town, at, 0, worth);
            sum += worth[0];
        }
        return sum;
    }

    private List<Integer> goings(int o, int chained) {
        List<One> town = copyOf(ovens);
        List<Integer> nights = new ArrayList<>();
        for (int at = night; at < end; at++) {
            int went = pass(town, at, chained, new int[1]);
            if (o < 0 ? went != 0 : (went >> o & 1) != 0) nights.add(at);
        }
        return nights;
    }

    int goes(int o) {
        if (!is(o)) return BAD;
        List<Integer> nights = goings(o, 0);
        return nights.isEmpty() ? NONE : nights.get(0);
    }

    int often(int o) { return is(o) ? goings(o, 0).size() : BAD; }

    private int bestWith(int o, int what, int top) {
        if (!is(o)) return BAD;
        int was = ovenOf(o, what), best = 0, most = -1;
        for (int v = 0; v <= top; v++) {
            change(o, what, v);
            if (on(16) > most) { most = on(16); best = v; }
        }
        change(o, what, was);
        return best;
    }

    int placeFor(int o) { return bestWith(o, 2, 15); }

    int warmFor(int o) { return bestWith(o, 1, 9); }

    // ---- weddings, chains

    private List<int[]> allPairs() {
        List<int[]> found = new ArrayList<>();
        for (int i = 0; i < ovens.size(); i++) {
            for (int j = i + 1; j < ovens.size(); j++) {
                if (longing(i, j) > 100 && longing(j, i) > 100) found.add(new int[] {i, j});
            }
        }
        return found;
    }

    int pairs() { return allPairs().size(); }

    /** Every set of pairs is tried: {how many, LONGING, mates ..}. */
    private int[] most() {
        List<int[]> all = allPairs();
        int[] best = null;
        for (int set = 0; set < 1 << all.size(); set++) {
            if (Integer.bitCount(set) > 3) continue;
            int[] mates = {6, 6, 6, 6, 6, 6};
            int longing = 0;
            boolean well = true;
            for (int k = 0; k < all.size(); k++) {
                if ((set >> k & 1) == 0) continue;
                int i = all.get(k)[0], j = all.get(k)[1];
                well &= mates[i] == 6 && mates[j] == 6;
                mates[i] = j;
                mates[j] = i;
                longing += longing(i, j) + longing(j, i) - 200;
            }
            if (!well) continue;
            int[] one = new int[8];
            one[0] = Integer.bitCount(set);
            one[1] = longing;
            System.arraycopy(mates, 0, one, 2, 6);
            if (best == null || better(one, best)) best = one;
        }
        return best;
    }

    private static boolean better(int[] one, int[] best) {
        if (one[0] != best[0]) return one[0] > best[0];
        if (one[1] != best[1]) return one[1] > best[1];
        return Arrays.compare(one, 2, 8, best, 2, 8) < 0;
    }

    int weddings(int what) { return what < 0 || what > 1 ? BAD : most()[what]; }

    int mate(int o) { return is(o) ? most()[2 + o] : BAD; }

    int chains(int what) {
        if (what < 0 || what > 1) return BAD;
        for (int many = 0; many <= ovens.size(); many++) {
            for (int set = 0; set < 1 << ovens.size(); set++) {
                if (Integer.bitCount(set) == many && goings(-1, set).isEmpty()) return what == 0 ? set : many;
            }
        }
        throw new IllegalStateException();
    }

    // ---- plans

    private static final class Plan {
        int[] acts;
        int worth, homes;
        List<int[]> rows = new ArrayList<>();
    }

    private Plan run(int[] acts) {
        Plan plan = new Plan();
        plan.acts = acts.clone();
        List<One> town = copyOf(ovens);
        int[] worth = new int[1];
        for (int k = 0; k < acts.length; k++) {
            pass(town, night + k, acts[k] == 0 ? 0 : 1 << (acts[k] - 1), worth);
            plan.worth += worth[0];
            plan.rows.add(new int[] {acts[k], worth[0], homes(town)});
        }
        plan.homes = homes(town);
        return plan;
    }

    /** In the order in which the lesser ACT comes first. */
    private List<Plan> plans(int n) {
        int nights = Math.max(0, Math.min(n, end - night)), base = ovens.size() + 1, total = 1;
        for (int k = 0; k < nights; k++) total *= base;
        List<Plan> all = new ArrayList<>();
        for (int code = 0; code < total; code++) {
            int[] acts = new int[nights];
            int rest = code;
            for (int k = nights - 1; k >= 0; k--) { acts[k] = rest % base; rest /= base; }
            all.add(run(acts));
        }
        return all;
    }

    private List<Plan> bestPlans(int n) {
        List<Plan> all = plans(n);
        int most = all.stream().mapToInt(p -> p.worth).max().getAsInt();
        List<Plan> best = new ArrayList<>();
        for (Plan p : all) if (p.worth == most) best.add(p);
        return best;
    }

    int best(int n) { return n < 0 || n > 4 ? BAD : bestPlans(n).get(0).worth; }

    int ith(int n, int i) {
        if (n < 0 || n > 4 || i < 0 || i > 3) return BAD;
        int[] acts = bestPlans(n).get(0).acts;
        return i < acts.length ? acts[i] : NONE;
    }

    int ways(int n) { return n < 0 || n > 4 ? BAD : bestPlans(n).size(); }

    private boolean badSet(int n, int set) { return n < 0 || n > 4 || set < 0 || set >= 1 << ovens.size(); }

    int kept(int n, int set) {
        if (badSet(n, set)) return BAD;
        int fewest = 99;
        for (Plan p : plans(n)) {
            int acts = (int) Arrays.stream(p.acts).filter(a -> a != 0).count();
            if ((p.homes & set) == set) fewest = Math.min(fewest, acts);
        }
        return fewest == 99 ? NONE : fewest;
    }

    int bars(int n, int set) {
        if (badSet(n, set)) return BAD;
        List<Plan> all = plans(n);
        for (int o = 0; o < 6; o++) {
            int one = o;
            if ((set >> o & 1) != 0 && all.stream().noneMatch(p -> (p.homes >> one & 1) != 0)) return o;
        }
        return NONE;
    }

    // ---- a game, strange ovens, lots

    private int value(List<One> town, int at, int left, boolean most) {
        if (left == 0 || at >= end) return 0;
        List<Integer> values = moves(town, at, left, most);
        return values.stream().mapToInt(v -> v).boxed().reduce(most ? Math::max : Math::min).get();
    }

    private List<Integer> moves(List<One> town, int at, int left, boolean most) {
        List<Integer> values = new ArrayList<>();
        for (int act = 0; act <= town.size(); act++) {
            List<One> then = copyOf(town);
            int[] worth = new int[1];
            pass(then, at, act == 0 ? 0 : 1 << (act - 1), worth);
            values.add(worth[0] + value(then, at + 1, left - 1, !most));
        }
        return values;
    }

    int game(int n) { return n < 1 || n > 4 ? BAD : value(ovens, night, n, true); }

    int play(int n) {
        if (n < 1 || n > 4) return BAD;
        if (night >= end) return NONE;
        return moves(ovens, night, n, true).indexOf(game(n));
    }

    int report(int kind, int place, int least, int most) {
        if (kind < 1 || kind > 5 || place < 0 || place > 15) return BAD;
        if (least < -20 || most > 20 || most < least) return BAD;
        if (reports.size() == 6) return FULL;
        reports.add(new int[] {kind, place, least, most});
        return reports.size() - 1;
    }

    int forget() {
        int were = reports.size();
        reports = new ArrayList<>();
        return were;
    }

    private List<One> fitting(int but) {
        List<One> found = new ArrayList<>();
        for (int place = 0; place < 16; place++) {
            for (int warm = 0; warm < 10; warm++) {
                One strange = new One();
                strange.place = place; strange.warm = warm; strange.number = 0;
                boolean fits = true;
                for (int r = 0; r < reports.size(); r++) {
                    if (r == but) continue;
                    One one = new One();
                    one.kind = reports.get(r)[0]; one.place = reports.get(r)[1]; one.warm = 5; one.number = 1;
                    int felt = longs(one, strange);
                    fits &= felt >= reports.get(r)[2] && felt <= reports.get(r)[3];
                }
                if (fits) found.add(strange);
            }
        }
        return found;
    }

    int span(int what) {
        if (what < 0 || what > 2) return BAD;
        List<One> all = fitting(-1);
        if (what == 0) return all.size();
        if (all.isEmpty()) return NONE;
        return what == 1 ? all.get(0).place : all.get(0).warm;
    }

    int liar() {
        if (!fitting(-1).isEmpty()) return NONE;
        for (int r = 0; r < reports.size(); r++) if (!fitting(r).isEmpty()) return r;
        return NONE;
    }

    int seed(int v) {
        int was = z;
        z = v;
        return was;
    }

    int lot() {
        if (night >= end) return STATE;
        z = z * 1103515245 + 12345;
        return passNow((z >>> 16) % (ovens.size() + 1));
    }

    int times(int n, int v) {
        if (n < 1 || n > 40 || v < 0 || v > 999) return BAD;
        Model trial = new Model();
        int found = 0, lot = z;
        for (int k = 0; k < n; k++) {
            trial.become(this);
            trial.z = lot;
            trial.score = 0;
            while (trial.night < trial.end) trial.lot();
            if (trial.score >= v) found++;
            lot = trial.z;
        }
        return found;
    }

    // ---- rows

    int prove(int n) {
        if (n < 0 || n > 4) return BAD;
        rows = bestPlans(n).get(0).rows;
        return rows.size();
    }

    int row(int k, int what) {
        return k < 0 || k >= rows.size() || what < 0 || what > 2 ? -9 : rows.get(k)[what];
    }

    int alterRow(int k, int what, int v) {
        int was = row(k, what);
        if (k >= 0 && k < rows.size() && what >= 0 && what <= 2) rows.get(k)[what] = v;
        return was;
    }

    int judge() {
        for (int k = 0; k < rows.size(); k++) {
            if (night + k >= end) return k + 1;
            int[] acts = new int[k + 1];
            for (int j = 0; j <= k; j++) acts[j] = rows.get(j)[0];
            if (acts[k] < 0 || acts[k] > ovens.size()) return k + 1;
            if (!Arrays.equals(run(acts).rows.get(k), rows.get(k))) return k + 1;
        }
        return 0;
    }

    // ---- the host

    private static boolean four(int i) { return i >= 0 && i < 4; }

    int sheet(int sheet, int sort, int n) {
        if (!four(sheet) || sort < -1 || sort > 4) return BAD;
        if (sort >= 0 && n > 40) return BAD;
        if (sort >= 0 && n < 0) return -14;
        sheets[sheet] = null;
        if (sort >= 0) {
            sheets[sheet] = new Sheet();
            sheets[sheet].sort = sort;
            sheets[sheet].items = new long[n];
        }
        return 1;
    }

    int write(int sheet, int i, int v) {
        if (!four(sheet)) return BAD;
        Sheet s = sheets[sheet];
        if (s == null) return -11;
        if (i < 0 || i >= s.items.length) return -12;
        s.items[i] = s.sort == 0 ? (byte) v : s.sort == 1 ? (short) v : s.sort == 4 ? (v == 0 ? 0 : 1) : v;
        return 1;
    }

    int item(int sheet, int sort, int i) {
        if (!four(sheet) || sort < 0 || sort > 4) return BAD;
        Sheet s = sheets[sheet];
        if (s == null) return -11;
        if (s.sort != sort) return -13;
        return i < 0 || i >= s.items.length ? -12 : (int) s.items[i];
    }

    int goAll(int sheet, int i, int n) {
        if (!four(sheet) || n < 0 || n > 20) return BAD;
        Sheet s = sheets[sheet];
        if (s == null) return -11;
        if (s.sort != 0) return -13;
        int sum = 0;
        for (long p = i; p < (long) i + n; p++) {
            if (p < 0 || p >= s.items.length) return -12;
            int act = (int) s.items[(int) p];
            if (act >= 0 && act <= ovens.size() && night < end) sum += passNow(act);
        }
        return sum;
    }

    int wouldBe(int sheet, int i, int n) {
        if (!four(sheet) || n < 0 || n > 20) return BAD;
        Sheet s = sheets[sheet];
        if (s == null) return -11;
        if (s.sort != 0) return -13;
        Model trial = new Model();
        trial.become(this);
        trial.score = 0;
        for (long p = i; p < (long) i + n; p++) {
            if (p < 0 || p >= s.items.length) return -12;
            int act = (int) s.items[(int) p];
            if (act < 0 || act > ovens.size() || trial.night >= end) return STATE;
            trial.passNow(act);
        }
        return trial.score;
    }

    int shelf(int shelf, int what, int n) {
        if (!four(shelf)) return BAD;
        if (what == 0 && is(n)) shelves[shelf] = Integer.valueOf(n);
        else if (what == 1 && four(n)) shelves[shelf] = sheets[n];
        else if (what == 2) shelves[shelf] = null;
        else return BAD;
        return 1;
    }

    private Object held(int shelf) {
        Object thing = shelves[shelf];
        return thing instanceof Integer && !is((Integer) thing) ? null : thing;
    }

    int taken(int shelf, int as) {
        if (!four(shelf) || as < 0 || as > 14 || as > 5 && as < 10) return BAD;
        Object thing = held(shelf);
        if (thing == null) return -11;
        if (thing instanceof Sheet) return ((Sheet) thing).sort == as - 10 ? ((Sheet) thing).items.length : -13;
        int o = (Integer) thing;
        return as <= 5 && under(ovens.get(o).kind, as) ? o : -13;
    }

    int act(int shelf, int act, int x) {
        trace = new ArrayList<>();
        if (!four(shelf) || act < 0 || act > 3 || !(held(shelf) instanceof Integer)) return 0;
        One one = ovens.get((Integer) held(shelf));
        try {
            return doAct(one, one.kind, act, x);
        } catch (DividedByZero e) {
            return -15;
        }
    }

    /** The body that a thing has of an act, looked for from a KIND upwards. */
    private int doAct(One one, int from, int act, int x) {
        int n = one.number, a = one.fire, up = PARENT[from], kind = one.kind;
        int body = bodyOf(from, act);
        if (body < 0) return doAct(one, up, act, x);
        trace.add(body);
        switch (body) {
            case 10: return x - n * 3;
            case 11: return doAct(one, kind, 0, x) ^ a;
            case 12:
                if (n == a) throw new DividedByZero();
                return x % (n - a);
            case 13: return doAct(one, kind, 1, x) + 1;
            case 20: return doAct(one, up, 0, x) * 2;
            case 30: return doAct(one, up, 1, x) - n;
            case 40: return doAct(one, up, 2, x) + a;
            case 50: return doAct(one, up, 0, x) ^ 3;
            case 51: return doAct(one, up, 3, x) * doAct(one, kind, 2, x);
            case 60: return 0 - doAct(one, up, 1, x);
            default: return doAct(one, up, 2, x) - doAct(one, kind, 0, n);
        }
    }

    private static int bodyOf(int kind, int act) {
        int[][] bodies = {{10, 11, 12, 13}, {20, -1, -1, -1}, {-1, 30, -1, -1}, {50, -1, -1, 51}, {-1, -1, 40, -1},
            {-1, 60, 61, -1}};
        return bodies[kind][act];
    }

    int trace(int i) { return i < 0 || i >= trace.size() ? NONE : trace.get(i); }

    int many(int what) {
        if (what < 0 || what > 6) return BAD;
        return new int[] {ovens.size(), rules.size(), Integer.bitCount(homes(ovens)), reports.size(), rows.size(),
            tape.length(), trace.size()}[what];
    }

    // ---- kept

    int keep() {
        kept = new Model();
        kept.become(this);
        return 1;
    }

    int again() {
        if (kept == null) return NONE;
        become(kept);
        return ovens.size();
    }
}
