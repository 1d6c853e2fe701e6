import java.util.Random;

/** Runs of calls drawn by seeds, each answer held against the Model's. */
public final class ModelTest {
    private static final String[] NAMES = {
        "oven", "ovenOf", "change", "remake", "longing", "ends", "anew", "state", "feed", "rules", "night", "on", "goes",
        "often", "placeFor", "warmFor", "pairs", "weddings", "mate", "chains", "best", "ith", "ways", "kept", "bars",
        "game", "play", "report", "forget", "span", "liar", "seed", "lot", "times", "prove", "row", "alterRow", "judge",
        "sheet", "write", "item", "goAll", "wouldBe", "shelf", "taken", "act", "trace", "many", "keep", "again"};
    private static final String[] WORDS = {
        "oven", "widowed", "range", "doored", "portable", "rake", "go", "stay", "shy", "if", "or", "and", "not", "night",
        "warm", "place", "fire", "number", "<", "=", ">", "(", ")", ";", "0", "3", "7", "12", "9999", "10000", "00005",
        "ovens", "x", "!", " ", "\n", "A", "goo"};
    private static final int[] ODD = {Integer.MIN_VALUE, -2147483647, -100, -21, -20, -2, -1, 0, 1, 2, 3, 4, 5, 6, 7, 8,
        9, 10, 11, 14, 15, 16, 17, 20, 21, 31, 32, 40, 41, 63, 64, 127, 128, 255, 999, 1000, 65536, Integer.MAX_VALUE};

    private static int wrong = 0;
    private static int[] asked = new int[NAMES.length];
    private static int[] welcomed = new int[NAMES.length];

    public static void main(String[] args) {
        int runs = args.length > 0 ? Integer.parseInt(args[0]) : 250;
        int first = args.length > 1 ? Integer.parseInt(args[1]) : 0;
        for (int run = first; run < first + runs && wrong < 10; run++) {
            new ModelTest(run).run();
        }
        for (int k = 0; k < NAMES.length; k++) {
            if (asked[k] < runs / 10) {
                wrong++;
                System.out.println(NAMES[k] + " was asked only " + asked[k] + " times");
            }
            if (welcomed[k] == 0) {
                wrong++;
                System.out.println(NAMES[k] + " was always refused");
            }
        }
        System.out.println(wrong == 0 ? "all answers are the model's" : wrong + " answers are not the model's");
        if (wrong != 0) System.exit(1);
    }

    private final Random random;
    private final int run;
    private final OvenPairs x = new OvenPairs();
    private final Model m = new Model();
    private final StringBuilder told = new StringBuilder();
    private final double oddness;
    private int answers = 0;

    private ModelTest(int run) {
        this.run = run;
        random = new Random(run);
        oddness = run % 3 == 0 ? 0.25 : 0.03;
    }

    private void run() {
        int ovens = random.nextInt(7);
        for (int k = 0; k < ovens; k++) call(0);
        int calls = 60 + random.nextInt(200);
        // behind 512 calls all answers are free; one turn makes fewer than 40
        for (int k = 0; k < calls && answers < 470 && wrong < 10; k++) {
            int which = random.nextInt(NAMES.length + 4);
            if (which >= NAMES.length) feedRules(); else call(which);
        }
    }

    private int draw(int least, int most) {
        if (random.nextDouble() < oddness) {
            int v = ODD[random.nextInt(ODD.length)];
            return random.nextInt(20) == 0 ? random.nextInt() : v;
        }
        return least + random.nextInt(most - least + 1);
    }

    private void hold(int which, String call, int got, int due) {
        asked[which]++;
        answers++;
        if (due >= 0) welcomed[which]++;
        told.append(call).append(" = ").append(due).append('\n');
        if (got != due) {
            wrong++;
            System.out.println("run " + run + ": " + call + " answered " + got + ", the model " + due + ", behind\n" + told);
        }
    }

    private void feedRules() {
        String text = random.nextInt(3) == 0 ? jumble() : goodText();
        if (random.nextInt(4) == 0 && text.length() > 0) {
            int at = random.nextInt(text.length());
            String put = WORDS[random.nextInt(WORDS.length)];
            int cut = Math.min(text.length(), at + random.nextInt(4));
            text = text.substring(0, at) + put + text.substring(cut);
        }
        for (int at = 0; at < text.length(); at += 8) {
            int n = Math.min(8, text.length() - at);
            long eight = random.nextLong() << (n == 8 ? 0 : 8 * n);
            if (n == 8) eight = 0;
            for (int k = 0; k < n; k++) eight |= (long) (text.charAt(at + k) & 255) << (8 * k);
            hold(8, "feed " + n, x.feed(eight, n), m.feed(eight, n));
        }
        told.append("TEXT [").append(text).append("]\n");
        call(9);
    }

    private String jumble() {
        StringBuilder text = new StringBuilder();
        int words = random.nextInt(30);
        for (int k = 0; k < words; k++) {
            text.append(WORDS[random.nextInt(WORDS.length)]);
            if (random.nextInt(3) > 0) text.append(' ');
        }
        return text.toString();
    }

    private String goodText() {
        StringBuilder text = new StringBuilder();
        int rules = random.nextInt(8) == 0 ? 9 : random.nextInt(5);
        for (int k = 0; k < rules; k++) {
            text.append(WORDS[random.nextInt(6)]).append(' ');
            if (rules < 9 && random.nextInt(4) > 0) text.append("if ").append(condition(random.nextInt(14) == 0 ? 4 : 3)).append(' ');
            text.append(WORDS[6 + random.nextInt(3)]).append(random.nextInt(3) == 0 ? " ; " : ";");
        }
        return text.length() > 200 && random.nextInt(3) > 0 ? "" : text.toString();
    }

    private String condition(int depth) {
        StringBuilder text = new StringBuilder(one(depth));
        int more = random.nextInt(3);
        for (int k = 0; k < more; k++) text.append(random.nextBoolean() ? " and " : " or ").append(one(depth));
        return text.toString();
    }

    private String one(int depth) {
        StringBuilder text = new StringBuilder();
        while (random.nextInt(5) == 0) text.append("not ");
        if (depth > 0 && random.nextInt(5) == 0 || depth == 4) return text + "(" + condition(depth - 1) + ")";
        return text + value() + WORDS[18 + random.nextInt(3)] + value();
    }

    private String value() {
        return random.nextInt(3) == 0 ? "" + random.nextInt(10) : WORDS[13 + random.nextInt(5)];
    }

    private int o() { return draw(0, Math.max(0, m.many(0) - 1)); }

    private int set() { return draw(0, (1 << m.many(0)) - 1); }

    private void call(int which) {
        int a, b, c, d;
        switch (NAMES[which]) {
            case "oven": a = draw(1, 5); b = draw(0, 9); c = draw(0, 15); d = draw(1, 9);
                hold(which, "oven " + a + " " + b + " " + c + " " + d, x.oven(a, b, c, d), m.oven(a, b, c, d)); break;
            case "ovenOf": a = o(); b = draw(0, 7); hold(which, "ovenOf " + a + " " + b, x.ovenOf(a, b), m.ovenOf(a, b)); break;
            case "change": a = o(); b = draw(1, 4); c = draw(1, 9);
                hold(which, "change " + a + " " + b + " " + c, x.change(a, b, c), m.change(a, b, c)); break;
            case "remake": a = o(); b = draw(1, 5); hold(which, "remake " + a + " " + b, x.remake(a, b), m.remake(a, b)); break;
            case "longing": a = o(); b = o(); hold(which, "longing " + a + " " + b, x.longing(a, b), m.longing(a, b)); break;
            case "ends": a = draw(4, 16); hold(which, "ends " + a, x.ends(a), m.ends(a)); break;
            case "anew": hold(which, "anew", x.anew(), m.anew()); break;
            case "state": a = draw(0, 4); hold(which, "state " + a, x.state(a), m.state(a)); break;
            case "feed": a = draw(1, 8); long eight = random.nextLong();
                hold(which, "feed " + eight + " " + a, x.feed(eight, a), m.feed(eight, a)); break;
            case "rules": hold(which, "rules", x.rules(), m.rules()); break;
            case "night": hold(which, "night", x.night(), m.night()); break;
            case "on": a = draw(0, 16); hold(which, "on " + a, x.on(a), m.on(a)); break;
            case "goes": a = o(); hold(which, "goes " + a, x.goes(a), m.goes(a)); break;
            case "often": a = o(); hold(which, "often " + a, x.often(a), m.often(a)); break;
            case "placeFor": a = o(); hold(which, "placeFor " + a, x.placeFor(a), m.placeFor(a)); break;
            case "warmFor": a = o(); hold(which, "warmFor " + a, x.warmFor(a), m.warmFor(a)); break;
            case "pairs": hold(which, "pairs", x.pairs(), m.pairs()); break;
            case "weddings": a = draw(0, 1); hold(which, "weddings " + a, x.weddings(a), m.weddings(a)); break;
            case "mate": a = o(); hold(which, "mate " + a, x.mate(a), m.mate(a)); break;
            case "chains": a = draw(0, 1); hold(which, "chains " + a, x.chains(a), m.chains(a)); break;
            default: callOn(which);
        }
    }

    private int n(int least) { return draw(least, random.nextInt(12) == 0 ? 4 : 3); }

    private void callOn(int which) {
        int a, b, c, d;
        switch (NAMES[which]) {
            case "best": a = n(0); hold(which, "best " + a, x.best(a), m.best(a)); break;
            case "ith": a = n(0); b = draw(0, 3); hold(which, "ith " + a + " " + b, x.ith(a, b), m.ith(a, b)); break;
            case "ways": a = n(0); hold(which, "ways " + a, x.ways(a), m.ways(a)); break;
            case "kept": a = n(0); b = set(); hold(which, "kept " + a + " " + b, x.kept(a, b), m.kept(a, b)); break;
            case "bars": a = n(0); b = set(); hold(which, "bars " + a + " " + b, x.bars(a, b), m.bars(a, b)); break;
            case "game": a = n(1); hold(which, "game " + a, x.game(a), m.game(a)); break;
            case "play": a = n(1); hold(which, "play " + a, x.play(a), m.play(a)); break;
            case "report": a = draw(1, 5); b = draw(0, 15); c = draw(-6, 8); d = random.nextInt(5) == 0 ? draw(-20, 20) : c + draw(0, 6);
                hold(which, "report " + a + " " + b + " " + c + " " + d, x.report(a, b, c, d), m.report(a, b, c, d)); break;
            case "forget": hold(which, "forget", x.forget(), m.forget()); break;
            case "span": a = draw(0, 2); hold(which, "span " + a, x.span(a), m.span(a)); break;
            case "liar": hold(which, "liar", x.liar(), m.liar()); break;
            case "seed": a = random.nextInt(); hold(which, "seed " + a, x.seed(a), m.seed(a)); break;
            case "lot": hold(which, "lot", x.lot(), m.lot()); break;
            case "times": a = draw(1, 40); int rest = Math.min(970, m.on(16)); b = draw(Math.max(0, rest - 30), rest + 29);
                hold(which, "times " + a + " " + b, x.times(a, b), m.times(a, b)); break;
            case "prove": a = n(0); hold(which, "prove " + a, x.prove(a), m.prove(a)); break;
            case "row": a = draw(0, 3); b = draw(0, 2); hold(which, "row " + a + " " + b, x.row(a, b), m.row(a, b)); break;
            case "alterRow": a = draw(0, 3); b = draw(0, 2); c = draw(0, 6);
                hold(which, "alterRow " + a + " " + b + " " + c, x.alterRow(a, b, c), m.alterRow(a, b, c)); break;
            case "judge": if (random.nextInt(3) == 0) call(34);
                hold(which, "judge", x.judge(), m.judge()); break;
            default: callHost(which);
        }
    }

    private void callHost(int which) {
        int a = draw(0, 3), b, c;
        switch (NAMES[which]) {
            case "sheet": b = random.nextInt(2) == 0 ? 0 : draw(-1, 4); c = draw(0, 12);
                hold(which, "sheet " + a + " " + b + " " + c, x.sheet(a, b, c), m.sheet(a, b, c)); break;
            case "write": b = draw(0, 9); c = random.nextInt(6) == 0 ? random.nextInt() : draw(0, 6);
                hold(which, "write " + a + " " + b + " " + c, x.write(a, b, c), m.write(a, b, c)); break;
            case "item": b = draw(0, 4); c = draw(0, 9);
                hold(which, "item " + a + " " + b + " " + c, x.item(a, b, c), m.item(a, b, c)); break;
            case "goAll": b = draw(0, 4); c = draw(0, 6);
                hold(which, "goAll " + a + " " + b + " " + c, x.goAll(a, b, c), m.goAll(a, b, c)); break;
            case "wouldBe": b = draw(0, 4); c = draw(0, 6);
                hold(which, "wouldBe " + a + " " + b + " " + c, x.wouldBe(a, b, c), m.wouldBe(a, b, c)); break;
            case "shelf": b = draw(0, 2); c = b == 0 ? o() : draw(0, 3);
                hold(which, "shelf " + a + " " + b + " " + c, x.shelf(a, b, c), m.shelf(a, b, c)); break;
            case "taken": b = draw(0, 14); hold(which, "taken " + a + " " + b, x.taken(a, b), m.taken(a, b)); break;
            case "act": if (random.nextInt(2) == 0) call(43);
                b = draw(0, 3); c = random.nextInt(3) == 0 ? random.nextInt() : draw(-30, 30);
                hold(which, "act " + a + " " + b + " " + c, x.act(a, b, c), m.act(a, b, c));
                hold(47, "many 6", x.many(6), m.many(6));
                for (int k = 0; k < 8; k++) hold(46, "trace " + k, x.trace(k), m.trace(k));
                break;
            case "trace": b = draw(0, 8); hold(which, "trace " + b, x.trace(b), m.trace(b)); break;
            case "many": b = draw(0, 6); hold(which, "many " + b, x.many(b), m.many(b)); break;
            case "keep": hold(which, "keep", x.keep(), m.keep()); break;
            case "again": hold(which, "again", x.again(), m.again()); break;
            default: throw new IllegalStateException(NAMES[which]);
        }
    }
}
