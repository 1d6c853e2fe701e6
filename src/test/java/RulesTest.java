/** Promises 10 and 11. */
public final class RulesTest {
    private static final Due due = new Due();

    public static void main(String[] args) {
        feed();
        faults();
        replaced();
        meanings();
        due.end();
    }

    private static void feed() {
        OvenPairs x = new OvenPairs();
        due.is("10 n 0", x.feed(0, 0), OvenPairs.BAD);
        due.is("10 n 9", x.feed(0, 9), OvenPairs.BAD);
        due.is("10 n -1", x.feed(0, -1), OvenPairs.BAD);
        due.is("10 one", x.feed(59, 1), 1);
        due.is("10 it is there", x.many(5), 1);
        due.is("10 eight", x.feed(-1L, 8), 9);
        x.rules();
        for (int k = 1; k <= 24; k++) due.is("10 eights", x.feed(0x2020202020202020L, 8), 8 * k);
        due.is("10 199", x.feed(0x20202020202020L, 7), 199);
        due.is("10 FULL", x.feed(0x2020L, 2), OvenPairs.FULL);
        due.is("10 BAD ahead of FULL", x.feed(0, 9), OvenPairs.BAD);
        due.is("10 nothing came", x.many(5), 199);
        due.is("10 200", x.feed(0x20L, 1), 200);
        due.is("10 FULL", x.feed(0x20L, 1), OvenPairs.FULL);
        due.is("11 200 blanks are no RULES", x.rules(), 0);
        // the lowest byte is first, and what stands above n bytes counts nothing
        due.is("10 'rake'", x.feed(0x7878656b6172L & 0xffffffffL | 0x5aL << 56, 4), 4);
        due.is("10 ' go;'", x.feed(0x3b6f6720L, 4), 8);
        due.is("11 one RULE", x.rules(), 1);
        due.is("11 used up", x.many(5), 0);
    }

    private static void fault(String text, int place) {
        OvenPairs x = new OvenPairs();
        Due.tell(x, "rake stay; rake go;");
        due.is("11 [" + text + "]", Due.tell(x, text), -100 - place);
        due.is("11 THE RULES stay behind [" + text + "]", x.many(1), 2);
        due.is("11 THE TAPE is used up by [" + text + "]", x.many(5), 0);
    }

    private static void well(String text, int count) {
        OvenPairs x = new OvenPairs();
        due.is("11 [" + text + "]", Due.tell(x, text), count);
        due.is("11 they are told by [" + text + "]", x.many(1), count);
    }

    private static void faults() {
        well("", 0);
        well("   ", 0);
        well("oven go;widowed stay;range shy;doored go;portable go;rake go;", 6);
        well(" oven   if(1<2)go ; ", 1);
        well("oven if warm<5stay;", 1);
        well("oven if 0000=9999 or not not night>number and(place=fire)shy;", 1);
        well("oven if (((1=1))) go;", 1);
        well("oven if (1=1) and (1=1) and ((1=1)) and (((1=1))) and (1=1) go;", 1);
        well("rake go;rake go;rake go;rake go;rake go;rake go;rake go;rake go;", 8);
        fault("rake go;rake go;rake go;rake go;rake go;rake go;rake go;rake go; rake go;", 65);
        fault("rake go;rake go;rake go;rake go;rake go;rake go;rake go;rake go;;", 64);
        fault(";", 0);
        fault("  ovens go;", 2);
        fault("oven", 4);
        fault("oven  ", 6);
        fault("oven going;", 5);
        fault("oven go", 7);
        fault("oven go stay;", 8);
        fault("oven7 go;", 4);
        fault("Oven go;", 0);
        fault("oven if go;", 8);
        fault("oven if warm go;", 13);
        fault("oven if warm < go;", 15);
        fault("oven if warm < 3;", 16);
        fault("oven if warm << 3 go;", 14);
        fault("oven if 12345 < 3 go;", 8);
        fault("oven if 3 < 00003 go;", 12);
        fault("oven if 1=1 and go;", 16);
        fault("oven if 1=1 not go;", 12);
        fault("oven if 1=1 or", 14);
        fault("oven if not", 11);
        fault("oven if ((((1=1)))) go;", 11);
        fault("oven if (1=1 go;", 13);
        fault("oven if (1=1)) go;", 13);
        fault("oven if 1=1) go;", 11);
        fault("oven if () go;", 9);
        fault("oven if (warm) = 3 go;", 13);
        fault("oven if oven = 3 go;", 8);
        fault("oven\tgo;", 4);
        fault("oven go;" + (char) 233, 8);
        fault("oven go;" + (char) 0, 8);
        fault("range dooredly", 6);
        fault("if go;", 0);
        fault("oven goz;", 5);
        fault("oven zgo;", 5);
        fault("portables go;", 0);
        fault("uven go;", 0);
        fault("oven if 1=1 or go;", 15);
        fault("oven if not go;", 12);
        fault("oven if (1=1 or go;", 16);
        fault(";".repeat(200), 0);
        fault("oven if 1 = 1 1 go;", 14);
        fault("oven if night = nights go;", 16);
        StringBuilder nots = new StringBuilder("oven if ");
        while (nots.length() < 190) nots.append("not ");
        fault(nots.toString(), nots.length());
        well(nots + "1=1go;", 1);
        well(nots.substring(0, 8) + nots.substring(12) + "  1=1  go;", 1);
        StringBuilder ands = new StringBuilder("oven if 1=1");
        while (ands.length() < 190) ands.append("and 1=1");
        well(ands + "go;", 1);
    }

    private static void replaced() {
        OvenPairs x = new OvenPairs();
        due.is("11 five digits", Due.tell(x, "oven if 1=12345"), -110);
        due.is("11 what THE TAPE had before counts nothing", Due.tell(x, "oven if 1=1234"), -114);
        x.oven(2, 3, 3, 3);
        due.is("11 three", Due.tell(x, "rake go; oven stay; oven shy;"), 3);
        due.is("11 the first that tells", x.ovenOf(0, 6), 1);
        due.is("11 one in place of all", Due.tell(x, "range shy;"), 1);
        due.is("11 the new one tells", x.ovenOf(0, 6), 2);
        due.is("11 none at all", x.rules(), 0);
        due.is("11 go, if no RULE tells", x.ovenOf(0, 6), 0);
    }

    /** An OVEN with number 1, WARM 2, PLACE 3, FIRE 4. */
    private static void holds(String condition, boolean so) {
        OvenPairs x = new OvenPairs();
        x.oven(1, 0, 0, 1);
        x.oven(5, 2, 3, 4);
        due.is("11 [" + condition + "] is told", Due.tell(x, "oven if " + condition + " stay;"), 1);
        due.is("11 " + condition, x.ovenOf(1, 6), so ? 1 : 0);
    }

    private static void meanings() {
        holds("number = 1", true);
        holds("warm = 2", true);
        holds("place = 3", true);
        holds("fire = 4", true);
        holds("night = 0", true);
        holds("night < 0", false);
        holds("night > 0", false);
        holds("3 < 4", true);
        holds("4 < 3", false);
        holds("4 > 3", true);
        holds("3 > 3", false);
        holds("0012 = 12", true);
        holds("9999 > 9998", true);
        holds("1=1 or 1=1 and 1=2", true);
        holds("(1=1 or 1=1) and 1=2", false);
        holds("1=2 and 1=1 or 1=1", true);
        holds("1=2 and (1=1 or 1=1)", false);
        holds("not 1=2 and 1=2", false);
        holds("not (1=2 and 1=2)", true);
        holds("not not 1=1", true);
        holds("not not not 1=1", false);
        holds("not 1=1 or 1=1", true);
        holds("1=2 or 1=2 or 1=2 or 1=1", true);
        holds("1=1 and 1=1 and 1=1 and 1=2", false);
        holds("1=2 or (1=1 and (1=2 or (1=1 and not 1=2)))", true);
        holds("1=2 or 1=1 and (1=2 or 1=1 and (1=2 or 1=1 and (1=2 or 1=1 and 1=2)))", false);
        OvenPairs x = new OvenPairs();
        for (int kind = 1; kind <= 5; kind++) x.oven(kind, 5, 5, 5);
        String[] kinds = {"oven", "widowed", "range", "doored", "portable", "rake"};
        int[] sets = {31, 1, 6, 4, 24, 16};
        for (int k = 0; k < 6; k++) {
            Due.tell(x, kinds[k] + " shy;");
            for (int o = 0; o < 5; o++) due.is("11 " + kinds[k] + " tells " + o, x.ovenOf(o, 6), (sets[k] >> o & 1) * 2);
        }
        Due.tell(x, "doored if number < 2 stay; range if number < 3 shy; oven stay;");
        int[] wills = {1, 2, 2, 1, 1};
        for (int o = 0; o < 5; o++) due.is("11 the first whose condition holds tells " + o, x.ovenOf(o, 6), wills[o]);
    }
}
