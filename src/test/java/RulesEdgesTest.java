import java.util.ArrayList;
import java.util.Arrays;
import java.util.List;

/** The edges of promises 10 and 11, and of the Terms about THE RULES: THE TAPE, what can stand where, each FAULT. */
public final class RulesEdgesTest {
    private static final Due due = new Due();
    private static final Twins twins = new Twins(due);
    private static final int LEAST = Integer.MIN_VALUE, MOST = Integer.MAX_VALUE;
    private static final List<String> KINDS = List.of("oven", "widowed", "range", "doored", "portable", "rake");
    private static final List<String> DOS = List.of("go", "stay", "shy");
    private static final List<String> VALUES = List.of("night", "warm", "place", "fire", "number", "0", "7", "0000", "9999");
    private static final String[] STRANGE = {"12345", "00000", "0123456789", "x", "ov", "ovens", "ovengo", "i", "iff", "an",
        "ands", "orr", "o", "nott", "no", "nights", "nigh", "warmer", "war", "plac", "places", "fir", "fires", "numbe",
        "numbers", "g", "goo", "sta", "stays", "sh", "shyy", "wido", "widoweds", "rang", "ranges", "door", "dooreds",
        "portabl", "portables", "rak", "rakes", "Oven", "\t", "\n", "\r", "!", "\"", "+", "-", "*", ",", ".", "/", ":",
        "?", "@", "A", "Z", "[", "]", "_", "`", "{", "|", "}", "~"};
    private static final int[] STRANGE_BYTES = {0, 1, 31, 127, 128, 160, 223, 233, 255};

    public static void main(String[] args) {
        boundsOfN();
        lowestFirst();
        tapeOfTwoHundred();
        fullTape();
        emptyText();
        usedUp();
        inPlaceOfAll();
        stayBehindAFault();
        whatCanStandWhere();
        theEndIfMoreMustCome();
        eightRules();
        digits();
        asLongAsTheyGo();
        blanksAsOneLikes();
        threeOpen();
        faultsAtTheEndsOfTheTape();
        longTexts();
        eachFact();
        eachSign();
        numbersToTheEnds();
        joins();
        due.end();
    }

    private static String repeat(String text, int times) {
        return text.repeat(times);
    }

    // ---- the tape

    private static void boundsOfN() {
        for (int n : new int[] {0, 9, -1, 64, LEAST, MOST}) twins.still("10 BAD n " + n, x -> x.feed(32, n), OvenPairs.BAD);
        for (int n = 1; n <= 8; n++) {
            OvenPairs x = new OvenPairs();
            due.is("10 n " + n, x.feed(0x2020202020202020L, n), n);
            due.is("10 it has " + n, x.many(5), n);
            due.is("10 and again", x.feed(0x2020202020202020L, n), 2 * n);
        }
    }

    private static void lowestFirst() {
        // "rake go;" and, above n bytes, what would be a FAULT
        String text = "rake go;";
        int[] lowest = {0, -100, -100, -100, -104, -105, -105, -107, 1};
        for (int n = 1; n <= 8; n++) {
            long eight = n == 8 ? 0 : -1L << (8 * n);
            for (int k = 0; k < n; k++) eight |= (long) text.charAt(k) << (8 * k);
            OvenPairs x = new OvenPairs();
            x.feed(eight, n);
            due.is("10 the lowest " + n + " bytes alone", x.rules(), lowest[n]);
        }
        for (int place = 0; place < 8; place++) {
            OvenPairs x = new OvenPairs();
            x.feed(0x2020202020202020L ^ 0xa0L << (8 * place), 8);
            due.is("10 a byte above 127 comes to place " + place, x.rules(), -100 - place);
        }
        OvenPairs x = new OvenPairs();
        due.is("10 eight bytes below 0", x.feed(Long.MIN_VALUE | 0x0020202020202020L, 8), 8);
        due.is("10 the highest one is 128", x.rules(), -107);
        OvenPairs y = new OvenPairs();
        y.feed(Long.MAX_VALUE, 8);
        due.is("10 255 can't stand", y.rules(), -100);
    }

    private static OvenPairs filled(int bytes) {
        OvenPairs x = Twins.rich();
        x.rules();
        while (x.many(5) + 8 <= bytes) x.feed(0x2020202020202020L, 8);
        if (x.many(5) < bytes) x.feed(0x2020202020202020L, bytes - x.many(5));
        return x;
    }

    private static void tapeOfTwoHundred() {
        due.is("10 192 and 8", filled(192).feed(-1L, 8), 200);
        due.is("10 199 and 1", filled(199).feed(-1L, 1), 200);
        due.is("10 193 and 7", filled(193).feed(-1L, 7), 200);
        OvenPairs x = filled(200);
        due.is("10 it has 200", x.many(5), 200);
        due.is("11 200 blanks", x.rules(), 0);
        due.is("10 empty again", x.feed(32, 1), 1);
    }

    private static void fullTape() {
        twins.still("10 FULL: 200 and 1", () -> filled(200), x -> x.feed(59, 1), OvenPairs.FULL);
        twins.still("10 FULL: 199 and 2", () -> filled(199), x -> x.feed(59, 2), OvenPairs.FULL);
        twins.still("10 FULL: 193 and 8", () -> filled(193), x -> x.feed(59, 8), OvenPairs.FULL);
        twins.still("10 BAD ahead of FULL: 0", () -> filled(200), x -> x.feed(59, 0), OvenPairs.BAD);
        twins.still("10 BAD ahead of FULL: 9", () -> filled(200), x -> x.feed(59, 9), OvenPairs.BAD);
        twins.still("10 BAD ahead of FULL: -1", () -> filled(200), x -> x.feed(59, -1), OvenPairs.BAD);
        twins.still("10 BAD ahead of FULL: the most", () -> filled(200), x -> x.feed(59, MOST), OvenPairs.BAD);
    }

    // ---- what rules() does to THE RULES

    private static int tell(String text) {
        return Due.tell(new OvenPairs(), text);
    }

    private static void well(String text, int count) {
        OvenPairs x = new OvenPairs();
        due.is("11 [" + text + "]", Due.tell(x, text), count);
        due.is("11 how many behind [" + text + "]", x.many(1), count);
    }

    private static void fault(String text, int place) {
        due.is("11 FAULT of [" + text + "]", tell(text), -100 - place);
    }

    private static void emptyText() {
        due.is("11 nothing on THE TAPE", new OvenPairs().rules(), 0);
        for (int blanks : new int[] {1, 7, 8, 9, 199, 200}) due.is("11 blanks alone", tell(repeat(" ", blanks)), 0);
    }

    private static void usedUp() {
        OvenPairs x = new OvenPairs();
        Due.tell(x, "oven go;");
        due.is("11 used up", x.many(5), 0);
        due.is("11 so there are none then", x.rules(), 0);
        due.is("11 none", x.many(1), 0);
        Due.tell(x, "oven go; x");
        due.is("11 used up by a FAULT, too", x.many(5), 0);
        twins.alike("11 a FAULT uses THE TAPE up, and changes nothing else", Twins::rich, y -> {
            Due.feed(y, "oven");
            due.is("11 FAULT at the end", y.rules(), -114);
        }, y -> {
            Due.feed(y, "!");
            due.is("11 FAULT at the last byte", y.rules(), -110);
        });
    }

    private static void inPlaceOfAll() {
        OvenPairs x = new OvenPairs();
        x.oven(4, 5, 5, 5);
        due.is("11 eight", Due.tell(x, repeat("oven stay;", 8)), 8);
        due.is("11 eight are there", x.many(1), 8);
        due.is("11 one in place of eight", Due.tell(x, "rake stay;"), 1);
        due.is("11 one is there", x.many(1), 1);
        due.is("11 the eight tell nothing now", x.ovenOf(0, 6), 0);
        due.is("11 none in place of one", x.rules(), 0);
        due.is("11 none is there", x.many(1), 0);
    }

    private static void stayBehindAFault() {
        OvenPairs x = new OvenPairs();
        x.oven(4, 5, 5, 5);
        Due.tell(x, "portable shy; rake go;");
        for (String text : new String[] {"oven stay; oven", "oven stay;;", "x", repeat("rake go;", 9)}) {
            due.is("11 a FAULT", Due.tell(x, text) <= -100 ? 1 : 0, 1);
            due.is("11 as many as before", x.many(1), 2);
            due.is("11 and they tell", x.ovenOf(0, 6), 2);
        }
    }

    // ---- what can stand where

    /** Each NAME, NUMBER, sign and strange byte is put behind a prefix: only those told can stand there. */
    private static void stands(String prefix, List<String> these, boolean values) {
        String[] words = {"oven", "widowed", "range", "doored", "portable", "rake", "go", "stay", "shy", "if", "or", "and",
            "not", "night", "warm", "place", "fire", "number", "0", "7", "0000", "9999", "<", "=", ">", "(", ")", ";"};
        for (String w : words) {
            boolean can = these.contains(w) || values && VALUES.contains(w);
            boolean closes = can && w.equals(";");
            int place = can ? prefix.length() + w.length() : prefix.length();
            int count = 1 + (int) prefix.chars().filter(c -> c == ';').count();
            due.is("11 [" + prefix + w + "]", tell(prefix + w), closes ? count : -100 - place);
        }
        for (String w : STRANGE) fault(prefix + w, prefix.length());
        for (int b : STRANGE_BYTES) fault(prefix + (char) b, prefix.length());
    }

    private static List<String> and(List<String> these, String... more) {
        List<String> all = new ArrayList<>(these);
        all.addAll(Arrays.asList(more));
        return all;
    }

    private static void whatCanStandWhere() {
        List<String> joins = List.of("and", "or"), signs = List.of("<", "=", ">"), opens = List.of("not", "(");
        stands("", KINDS, false);
        stands("   ", KINDS, false);
        for (String kind : KINDS) stands(kind + " ", and(DOS, "if"), false);
        stands("oven go ", List.of(";"), false);
        stands("oven if 1=1 shy ", List.of(";"), false);
        stands("oven stay; ", KINDS, false);
        stands("oven if ", opens, true);
        stands("oven if not ", opens, true);
        stands("oven if not not ", opens, true);
        stands("oven if ( ", opens, true);
        stands("oven if not (( ", opens, true);
        stands("oven if ((( ", List.of("not"), true);
        stands("oven if (((not ", List.of("not"), true);
        stands("oven if (((1=1 and ", List.of("not"), true);
        stands("oven if (((1=1)or ", opens, true);
        for (String value : VALUES) stands("oven if " + value + " ", signs, false);
        stands("oven if (warm ", signs, false);
        for (String sign : signs) stands("oven if warm " + sign + " ", List.of(), true);
        for (String value : VALUES) stands("oven if warm=" + value + " ", and(DOS, "and", "or"), false);
        stands("oven if (warm=3 ", and(joins, ")"), false);
        stands("oven if (warm=3) ", and(DOS, "and", "or"), false);
        stands("oven if ((warm=3) ", and(joins, ")"), false);
        stands("oven if (1=1)and(1=1) ", and(DOS, "and", "or"), false);
        stands("oven if 1=1 and ", opens, true);
        stands("oven if 1=1 or ", opens, true);
        stands("oven if (1=1 or ", opens, true);
        stands(repeat("rake go;", 7), KINDS, false);
        stands(repeat("rake go;", 8), List.of(), false);
        stands(repeat("rake go;", 8) + "  ", List.of(), false);
        stands(repeat("rake go;", 7) + "oven stay ", List.of(";"), false);
    }

    private static void theEndIfMoreMustCome() {
        String[] prefixes = {"oven", "oven ", "rake if", "oven if not", "oven if (", "oven if 3", "oven if warm<",
            "oven if warm<3", "oven if (warm<3", "oven if (warm<3)", "oven if 1=1 and", "oven if 1=1 or", "oven go",
            "oven if 1=1 go", "oven go;rake", "oven go;rake stay     ", repeat("rake go;", 7) + "oven"};
        for (String p : prefixes) {
            fault(p, p.length());
            fault(p + "   ", p.length() + 3);
            fault("  " + p, p.length() + 2);
        }
    }

    private static void eightRules() {
        well(repeat("rake go;", 7), 7);
        well(repeat("rake go;", 8), 8);
        well(repeat("rake go;", 8) + "    ", 8);
        fault(repeat("rake go;", 8) + "rake go;", 64);
        fault(repeat("rake go;", 8) + "   rake go;", 67);
        fault(repeat("rake go;", 8) + "rake", 64);
        fault(repeat("rake go;", 8) + "x", 64);
        fault(repeat("rake go;", 8) + "7", 64);
        fault(repeat("rake go;", 7) + "rake gone; rake go;", 61);
    }

    private static void digits() {
        for (String n : new String[] {"0", "1", "9", "10", "99", "100", "999", "1000", "9999", "0000", "0001", "00", "000"}) {
            well("oven if " + n + "<warm go;", 1);
            well("oven if warm<" + n + "go;", 1);
        }
        for (String n : new String[] {"10000", "00000", "99999", "123456", "2147483648", "4294967296", "18446744073709551616"}) {
            fault("oven if " + n + "<warm go;", 8);
            fault("oven if warm<" + n + "go;", 13);
            fault("oven if not(" + n, 12);
        }
        fault("oven if 123 4=1 go;", 12);
        fault(repeat("1", 200), 0);
        fault("oven if " + repeat("0", 192), 8);
    }

    private static void asLongAsTheyGo() {
        well("oven if 5<5stay;", 1);
        well("oven if 5<warm stay;", 1);
        fault("oven if 5<warmstay;", 10);
        fault("ovengo;", 0);
        fault("oven gostay;", 5);
        fault("ovenif 1=1 go;", 0);
        fault("oven ifwarm=1 go;", 5);
        fault("oven if notwarm=1 go;", 8);
        fault("oven if 1=1andnot 1=1 go;", 11);
        well("oven if 1=1and not 1=1or(1=1)stay;", 1);
        fault("oven if warm5=1 go;", 12);
        fault("oven if 5warm=1 go;", 9);
        fault("oven5 go;", 4);
        fault("o ven go;", 0);
        fault("oven g o;", 5);
        fault("zoven go;", 0);
        fault(repeat("a", 200), 0);
        fault(repeat("z", 9) + " go;", 0);
        fault("portablez go;", 0);
        fault("portabl go;", 0);
        fault("oven " + repeat("stay", 3) + ";", 5);
    }

    private static void blanksAsOneLikes() {
        well("  oven   if   (   warm   <   3   )   and   not   (   1   =   1   )   go   ;   ", 1);
        well("oven if(warm<3)and not(1=1)go;", 1);
        well("oven go;rake stay;", 2);
        well("   oven   stay   ;   rake   shy   ;", 2);
        fault("oven\tgo;", 4);
        fault("oven" + (char) 160 + "go;", 4);
        fault("oven\ngo;", 4);
        fault("oven go;" + (char) 0, 8);
    }

    private static void threeOpen() {
        well("oven if (1=1) go;", 1);
        well("oven if ((1=1)) go;", 1);
        well("oven if (((1=1))) go;", 1);
        fault("oven if ((((1=1)))) go;", 11);
        fault("oven if ( ( ( (1=1)))) go;", 14);
        fault("oven if (((not(1=1)))) go;", 14);
        fault("oven if (((1=1 and (1=1)))) go;", 19);
        well("oven if (((1=1)))and(((1=1)))or(((1=1))) go;", 1);
        well("oven if (((1=1)or 1=1)and(1=1 or(1=1)))go;", 1);
        well("oven if ((1=1)and((1=1)))go;", 1);
        fault("oven if ((1=1)and(((1=1)))go;", 19);
        well("oven if (((1=1)))go;rake if(((1=1)))go;", 2);
        fault("oven if (((1=1))) or ((((1=1)))) go;", 24);
        fault("oven if (((1=1)) go;", 17);
        fault("oven if (((1=1)))) go;", 17);
        fault("oven if (((", 11);
        fault("oven if ((((", 11);
    }

    private static void faultsAtTheEndsOfTheTape() {
        fault(repeat(" ", 199) + "x", 199);
        fault("x" + repeat(" ", 199), 0);
        fault("oven" + repeat(" ", 196), 200);
        fault(repeat(" ", 196) + "oven", 200);
        fault(repeat(" ", 197) + "ove", 197);
        well(repeat(" ", 191) + "oven go ;", 1);
        well("oven go;" + repeat(" ", 192), 1);
        fault(repeat(" ", 192) + "oven go ", 200);
        fault(repeat(";", 200), 0);
        fault(repeat("(", 200), 0);
        fault("oven if " + repeat("(", 192), 11);
    }

    private static void longTexts() {
        String nots = "oven if " + repeat("not ", 46) + "1=1 go;";
        well(nots, 1);
        fault("oven if " + repeat("not ", 48), 200);
        fault("oven if " + repeat("not ", 47) + "none", 196);
        well("oven if 1=1" + repeat("or 1=1", 30) + "go;", 1);
        well("oven if 1=1" + repeat("and 1=1", 26) + "stay;", 1);
        OvenPairs x = new OvenPairs();
        x.oven(4, 5, 5, 5);
        Due.tell(x, nots.replace("go", "stay").substring(0, 8) + nots.replace("go", "stay").substring(12));
        due.is("11 45 times not", x.ovenOf(0, 6), 0);
        Due.tell(x, "oven if 1=2" + repeat("or 1=2", 29) + "or 1=1stay;");
        due.is("11 the last of many or", x.ovenOf(0, 6), 1);
        Due.tell(x, "oven if 1=1" + repeat("and 1=1", 25) + "and 1=2shy;");
        due.is("11 the last of many and", x.ovenOf(0, 6), 0);
        Due.tell(x, "oven if 1=2" + repeat("and 1=1", 25) + "or 1=1shy;");
        due.is("11 and binds ahead of or", x.ovenOf(0, 6), 2);
    }

    // ---- what they tell

    /** The NIGHT is 1; the OVEN has number 2, WARM 3, PLACE 15, FIRE 9. */
    private static void holds(String condition, boolean so) {
        OvenPairs x = new OvenPairs();
        x.oven(1, 0, 0, 1);
        x.oven(1, 0, 0, 1);
        x.oven(4, 3, 15, 9);
        x.night();
        due.is("11 [" + condition + "] is told", Due.tell(x, "oven if " + condition + " stay;"), 1);
        due.is("11 " + condition, x.ovenOf(2, 6), so ? 1 : 0);
    }

    private static void eachFact() {
        String[] facts = {"night", "warm", "place", "fire", "number"};
        int[] values = {1, 3, 15, 9, 2};
        for (int k = 0; k < 5; k++) {
            for (int off = -1; off <= 1; off++) {
                int v = values[k] + off;
                holds(facts[k] + "=" + v, off == 0);
                holds(facts[k] + "<" + v, off > 0);
                holds(facts[k] + ">" + v, off < 0);
                holds(v + "=" + facts[k], off == 0);
                holds(v + "<" + facts[k], off < 0);
                holds(v + ">" + facts[k], off > 0);
            }
            for (int other = 0; other < 5; other++) holds(facts[k] + "<" + facts[other], values[k] < values[other]);
        }
        OvenPairs x = new OvenPairs();
        x.oven(1, 5, 5, 5);
        x.ends(16);
        Due.tell(x, "oven if night=16 shy;oven if night=15 stay;");
        for (int night = 0; night <= 16; night++) {
            due.is("11 WILL in NIGHT " + night, x.ovenOf(0, 6), night == 16 ? 2 : night == 15 ? 1 : 0);
            x.night();
        }
    }

    private static void eachSign() {
        holds("7<7", false);
        holds("7=7", true);
        holds("7>7", false);
        holds("6<7", true);
        holds("6=7", false);
        holds("6>7", false);
        holds("7<6", false);
        holds("7>6", true);
    }

    private static void numbersToTheEnds() {
        holds("9999=9999", true);
        holds("9998<9999", true);
        holds("9999<9999", false);
        holds("0=0000", true);
        holds("007=7", true);
        holds("0<1", true);
        holds("number<9999", true);
        holds("9999<number", false);
        holds("1000=999", false);
        holds("1234=1234", true);
        holds("1234=4321", false);
        holds("0900=900", true);
    }

    private static void joins() {
        String t = "1=1", f = "1=2";
        holds("not " + t, false);
        holds("not " + f, true);
        holds("not not " + t, true);
        holds("not not not " + t, false);
        for (int bits = 0; bits < 8; bits++) {
            boolean a = (bits & 1) != 0, b = (bits & 2) != 0, c = (bits & 4) != 0;
            String x = a ? t : f, y = b ? t : f, z = c ? t : f;
            holds(x + " and " + y, a && b);
            holds(x + " or " + y, a || b);
            holds(x + " and " + y + " or " + z, a && b || c);
            holds(x + " or " + y + " and " + z, a || b && c);
            holds("(" + x + " or " + y + ") and " + z, (a || b) && c);
            holds(x + " and (" + y + " or " + z + ")", a && (b || c));
            holds("not " + x + " and " + y, !a && b);
            holds("not " + x + " or " + y, !a || b);
            holds("not (" + x + " and " + y + ") or " + z, !(a && b) || c);
            holds(x + " and not (" + y + " or not " + z + ")", a && !(b || !c));
            holds("not (not (not (" + x + " or " + y + ") and " + z + "))", !(a || b) && c);
            holds(x + " or " + y + " and (" + z + " or " + x + " and (" + y + " or " + z + " and (" + x + " or " + y + ")))",
                a || b && (c || a && (b || c && (a || b))));
        }
    }
}
