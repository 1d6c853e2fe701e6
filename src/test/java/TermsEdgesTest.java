/** The edges of the document's first Terms: what OVENS are, LONGING, BAKES, WILL, FREE, CHOICE, how a NIGHT goes by. */
public final class TermsEdgesTest {
    private static final Due due = new Due();
    private static final int WIDOWED = 1, RANGE = 2, DOORED = 3, PORTABLE = 4, RAKE = 5, NOBODY = 6;

    public static void main(String[] args) {
        longingOfWidowed();
        longingOfRange();
        longingOfDoored();
        longingOfPortable();
        longingOfRake();
        bakesByFire();
        bakesByNight();
        goIfNoRuleTells();
        theFirstRuleThatTells();
        ofItsKindOrAboveIt();
        freeIsAtHome();
        freeIsWhoseWillIsNotStay();
        longingAboveZero();
        shyAboveThree();
        theGreatestOfSeveralTheLeast();
        otherOnesThatAreFree();
        awayIsOneLess();
        backAndOffInOneNight();
        byHowItIsBehindOne();
        eachTheChoiceOfTheOther();
        twoAndAQuarterOfFar();
        allThatAreAtHomeThen();
        theNightThatGoesBy();
        scoreOfAll();
        quotientsAreCut();
        due.end();
    }

    /** Two OVENS; the LONGING of the first for the second. */
    private static int longs(int kind, int warm, int place, int otherWarm, int otherPlace) {
        OvenPairs x = new OvenPairs();
        x.oven(kind, warm, place, 1);
        x.oven(DOORED, otherWarm, otherPlace, 1);
        return x.longing(0, 1) - 100;
    }

    private static void longingOfWidowed() {
        due.is("LONGING widowed: the most", longs(WIDOWED, 0, 7, 9, 7), 6);
        due.is("LONGING widowed: the least", longs(WIDOWED, 9, 0, 0, 15), -18);
        due.is("LONGING widowed: FAR the other way round", longs(WIDOWED, 9, 15, 0, 0), -18);
        due.is("LONGING widowed: one off", longs(WIDOWED, 9, 15, 4, 14), 0);
        due.is("LONGING widowed: no FAR", longs(WIDOWED, 9, 15, 4, 15), 1);
    }

    private static void longingOfRange() {
        due.is("LONGING range: one less than its own", longs(RANGE, 5, 3, 4, 3), -1);
        due.is("LONGING range: its own", longs(RANGE, 5, 3, 5, 3), 5);
        due.is("LONGING range: one more", longs(RANGE, 5, 3, 6, 3), 6);
        due.is("LONGING range: both 0", longs(RANGE, 0, 3, 0, 3), 0);
        due.is("LONGING range: the least", longs(RANGE, 0, 15, 0, 0), -15);
        due.is("LONGING range: the most", longs(RANGE, 9, 0, 9, 0), 9);
        due.is("LONGING range: colder ones far off are -1, too", longs(RANGE, 9, 0, 8, 15), -1);
        due.is("LONGING range: FAR is taken off", longs(RANGE, 9, 0, 9, 15), -6);
    }

    private static void longingOfDoored() {
        due.is("LONGING doored: for the warmest", longs(DOORED, 0, 0, 9, 0), -1);
        due.is("LONGING doored: for the coldest and furthest", longs(DOORED, 9, 0, 0, 15), -1);
    }

    private static void longingOfPortable() {
        due.is("LONGING portable: the least", longs(PORTABLE, 9, 0, 0, 15), 0);
        due.is("LONGING portable: the most, however far", longs(PORTABLE, 0, 0, 9, 15), 9);
    }

    private static void longingOfRake() {
        OvenPairs x = new OvenPairs();
        x.oven(RAKE, 9, 0, 1);
        x.oven(RAKE, 0, 15, 1);
        due.is("LONGING rake: a greater number", x.longing(0, 1), 102);
        due.is("LONGING rake: a lesser number", x.longing(1, 0), 109);
        x.change(1, 1, 9);
        due.is("LONGING rake: the most", x.longing(0, 1), 111);
        x.change(0, 1, 0);
        due.is("LONGING rake: the least", x.longing(1, 0), 100);
    }

    private static void bakesByFire() {
        int[][] due0 = {{0, 4}, {2, 18}, {3, 19}, {1, 9}, {1, 9}};
        for (int kind = WIDOWED; kind <= RAKE; kind++) {
            OvenPairs x = new OvenPairs();
            x.oven(kind, 5, 5, 1);
            due.is("BAKES least FIRE, KIND " + kind, x.ovenOf(0, 5), due0[kind - 1][0]);
            x.change(0, 3, 9);
            due.is("BAKES most FIRE, KIND " + kind, x.ovenOf(0, 5), due0[kind - 1][1]);
            due.is("WORTH of it alone, KIND " + kind, x.night(), due0[kind - 1][1]);
        }
    }

    private static void bakesByNight() {
        OvenPairs x = new OvenPairs();
        x.oven(RAKE, 5, 5, 7);
        x.oven(DOORED, 5, 5, 1);
        x.ends(16);
        for (int night = 0; night < 16; night++) {
            due.is("BAKES in NIGHT " + night, x.ovenOf(0, 5), night % 2 == 0 ? 7 : 0);
            due.is("the others do in NIGHT " + night, x.ovenOf(1, 5), 3);
            due.is("WORTH of NIGHT " + night, x.night(), night % 2 == 0 ? 10 : 3);
        }
        due.is("BAKES in NIGHT 16, which is OVER", x.ovenOf(0, 5), 7);
    }

    private static void goIfNoRuleTells() {
        OvenPairs x = new OvenPairs();
        x.oven(WIDOWED, 5, 5, 5);
        due.is("WILL without RULES", x.ovenOf(0, 6), 0);
        Due.tell(x, "range stay; portable stay; oven if 1=2 stay;");
        due.is("WILL, if none of three tells", x.ovenOf(0, 6), 0);
    }

    private static void theFirstRuleThatTells() {
        OvenPairs x = new OvenPairs();
        x.oven(WIDOWED, 5, 5, 5);
        Due.tell(x, "oven if warm<5 shy; oven if warm=5 stay; oven shy;");
        due.is("WILL by the second RULE", x.ovenOf(0, 6), 1);
        x.change(0, 1, 4);
        due.is("WILL by the first RULE", x.ovenOf(0, 6), 2);
        Due.tell(x, "oven if warm<4 stay;rake stay;range stay;doored stay;portable stay;rake stay;oven if 1=2 stay;oven shy;");
        due.is("WILL by the eighth RULE", x.ovenOf(0, 6), 2);
        Due.tell(x, "oven go; oven stay;");
        due.is("WILL go, told by a RULE, ahead of stay", x.ovenOf(0, 6), 0);
    }

    private static void ofItsKindOrAboveIt() {
        String[] names = {"oven", "widowed", "range", "doored", "portable", "rake"};
        int[][] told = {{1, 1, 0, 0, 0, 0}, {1, 0, 1, 0, 0, 0}, {1, 0, 1, 1, 0, 0}, {1, 0, 0, 0, 1, 0}, {1, 0, 0, 0, 1, 1}};
        for (int kind = WIDOWED; kind <= RAKE; kind++) {
            OvenPairs x = new OvenPairs();
            x.oven(kind, 5, 5, 5);
            for (int name = 0; name < 6; name++) {
                Due.tell(x, names[name] + " stay;");
                due.is("WILL of KIND " + kind + " by a RULE for " + names[name], x.ovenOf(0, 6), told[kind - 1][name]);
            }
        }
    }

    /** Two portables that long for one another. */
    private static OvenPairs couple() {
        OvenPairs x = new OvenPairs();
        x.oven(PORTABLE, 5, 0, 3);
        x.oven(PORTABLE, 5, 0, 4);
        return x;
    }

    private static void freeIsAtHome() {
        OvenPairs x = couple();
        due.is("CHOICE at home", x.ovenOf(0, 7), 1);
        x.change(0, 4, 1);
        due.is("CHOICE of one that is AWAY 1, as it is now", x.ovenOf(0, 7), NOBODY);
        due.is("CHOICE of the other one", x.ovenOf(1, 7), NOBODY);
        x.change(0, 4, 9);
        due.is("CHOICE of one that is AWAY 9", x.ovenOf(0, 7), NOBODY);
        x.change(0, 4, 0);
        due.is("CHOICE at home again", x.ovenOf(0, 7), 1);
        due.is("CHOICE of one alone", alone().ovenOf(0, 7), NOBODY);
    }

    private static OvenPairs alone() {
        OvenPairs x = new OvenPairs();
        x.oven(PORTABLE, 9, 0, 3);
        return x;
    }

    private static void freeIsWhoseWillIsNotStay() {
        OvenPairs x = couple();
        Due.tell(x, "oven if number=0 stay;");
        due.is("CHOICE of one that stays", x.ovenOf(0, 7), NOBODY);
        due.is("CHOICE of one whom nobody is left for", x.ovenOf(1, 7), NOBODY);
        Due.tell(x, "oven if number=0 shy;");
        due.is("CHOICE of a shy one", x.ovenOf(0, 7), 1);
        due.is("a shy one is chosen", x.ovenOf(1, 7), 0);
    }

    private static void longingAboveZero() {
        OvenPairs x = couple();
        x.change(1, 1, 0);
        due.is("CHOICE, LONGING 0", x.ovenOf(0, 7), NOBODY);
        x.change(1, 1, 1);
        due.is("CHOICE, LONGING 1", x.ovenOf(0, 7), 1);
        x.remake(0, WIDOWED);
        due.is("CHOICE, LONGING -2", x.ovenOf(0, 7), NOBODY);
    }

    private static void shyAboveThree() {
        OvenPairs x = couple();
        Due.tell(x, "portable shy;");
        x.change(1, 1, 3);
        due.is("CHOICE of a shy one, LONGING 3", x.ovenOf(0, 7), NOBODY);
        due.is("nobody goes", x.night(), 7);
        x.change(1, 1, 4);
        due.is("CHOICE of a shy one, LONGING 4", x.ovenOf(0, 7), 1);
        due.is("both go", x.night(), 0);
    }

    private static void theGreatestOfSeveralTheLeast() {
        OvenPairs x = new OvenPairs();
        int[] warms = {1, 8, 9, 9, 8, 9};
        for (int w : warms) x.oven(PORTABLE, w, 0, 1);
        due.is("CHOICE: of three the least", x.ovenOf(0, 7), 2);
        due.is("CHOICE: not itself", x.ovenOf(2, 7), 3);
        due.is("CHOICE: the least again", x.ovenOf(5, 7), 2);
        x.change(2, 4, 1);
        due.is("CHOICE: the next", x.ovenOf(0, 7), 3);
        x.change(3, 4, 1);
        due.is("CHOICE: the last one of all is the greatest", x.ovenOf(0, 7), 5);
        x.change(5, 4, 1);
        due.is("CHOICE: of two the least", x.ovenOf(0, 7), 1);
        due.is("CHOICE: that of the first two", x.ovenOf(1, 7), 4);
    }

    private static void otherOnesThatAreFree() {
        OvenPairs x = new OvenPairs();
        x.oven(PORTABLE, 5, 0, 1);
        x.oven(PORTABLE, 9, 0, 1);
        x.oven(PORTABLE, 7, 0, 1);
        Due.tell(x, "oven if number=1 stay;");
        due.is("CHOICE: not one that stays", x.ovenOf(0, 7), 2);
        x.rules();
        x.change(1, 4, 1);
        due.is("CHOICE: not one that is away", x.ovenOf(0, 7), 2);
        x.change(1, 4, 0);
        due.is("CHOICE: the warmest", x.ovenOf(0, 7), 1);
        x.sheet(0, 0, 1);
        x.write(0, 0, 2);
        due.is("CHAINED ones aren't chosen: the others go", x.goAll(0, 0, 1), 1);
        due.is("the CHAINED one is at home", x.state(4), 2);
    }

    private static void awayIsOneLess() {
        OvenPairs x = new OvenPairs();
        for (int o = 0; o < 6; o++) x.oven(DOORED, 0, 0, 1);
        for (int o = 0; o < 6; o++) x.change(o, 4, 9);
        for (int night = 1; night <= 9; night++) {
            due.is("WORTH while AWAY", x.night(), night == 9 ? 18 : 0);
            for (int o = 0; o < 6; o++) due.is("AWAY of " + o + " behind NIGHT " + night, x.ovenOf(o, 4), 9 - night);
        }
        x.night();
        for (int o = 0; o < 6; o++) due.is("AWAY isn't below 0", x.ovenOf(o, 4), 0);
    }

    private static void backAndOffInOneNight() {
        OvenPairs x = couple();
        x.change(0, 4, 1);
        x.change(1, 4, 1);
        due.is("AWAY 1: it is back and goes off", x.night(), 0);
        due.is("AWAY", x.ovenOf(0, 4) * 10 + x.ovenOf(1, 4), 22);
        x.change(0, 4, 2);
        x.change(1, 4, 1);
        due.is("AWAY 2: not yet; the other one bakes", x.night(), 4);
        due.is("AWAY", x.ovenOf(0, 4) * 10 + x.ovenOf(1, 4), 10);
    }

    private static void byHowItIsBehindOne() {
        OvenPairs x = new OvenPairs();
        x.oven(PORTABLE, 5, 0, 1);
        x.oven(PORTABLE, 5, 0, 2);
        x.oven(PORTABLE, 9, 0, 4);
        x.change(2, 4, 1);
        due.is("as it is now", x.ovenOf(0, 7), 1);
        due.is("the one that comes back goes, the second one bakes", x.night(), 2);
        due.is("at home", x.state(4), 2);
    }

    private static void eachTheChoiceOfTheOther() {
        OvenPairs x = new OvenPairs();
        x.oven(PORTABLE, 5, 0, 1);
        x.oven(PORTABLE, 6, 0, 2);
        x.oven(DOORED, 9, 0, 1);
        due.is("both choose the doored one", x.ovenOf(0, 7) * 10 + x.ovenOf(1, 7), 22);
        due.is("nobody goes", x.night(), 6);
        OvenPairs three = new OvenPairs();
        for (int k = 0; k < 6; k++) three.oven(PORTABLE, 5, k, 1);
        due.is("of six alike two go: the others want the first", three.night(), 4);
        due.is("at home", three.state(4), 60);
        due.is("then two more", three.night(), 2);
        due.is("the first two are back, and off with one another", three.night(), 2);
        due.is("at home", three.state(4), 48);
    }

    private static void twoAndAQuarterOfFar() {
        int[] away = {2, 2, 2, 2, 3, 3, 3, 3, 4, 4, 4, 4, 5, 5, 5, 5};
        for (int far = 0; far <= 15; far++) {
            for (int turn = 0; turn < 2; turn++) {
                OvenPairs x = new OvenPairs();
                x.oven(PORTABLE, 5, turn == 0 ? 0 : far, 1);
                x.oven(PORTABLE, 5, turn == 0 ? far : 0, 1);
                x.night();
                due.is("AWAY by FAR " + far, x.ovenOf(0, 4), away[far]);
                due.is("AWAY of the other by FAR " + far, x.ovenOf(1, 4), away[far]);
            }
        }
        OvenPairs last = new OvenPairs();
        for (int k = 0; k < 4; k++) last.oven(DOORED, 0, 0, 1);
        last.oven(PORTABLE, 5, 0, 1);
        last.oven(PORTABLE, 5, 15, 1);
        last.night();
        due.is("the last two of six", last.ovenOf(4, 4) * 10 + last.ovenOf(5, 4), 55);
        due.is("the others are at home", last.state(4), 15);
    }

    private static void allThatAreAtHomeThen() {
        OvenPairs x = new OvenPairs();
        due.is("nobody is at home", x.night(), 0);
        for (int k = 0; k < 6; k++) x.oven(DOORED, 9, 0, 9);
        due.is("the most that a NIGHT can be WORTH", x.night(), 114);
        for (int o = 0; o < 6; o++) x.change(o, 4, 2);
        due.is("all are away", x.night(), 0);
        due.is("all are back", x.night(), 114);
    }

    private static void theNightThatGoesBy() {
        OvenPairs x = couple();
        Due.tell(x, "oven if night=1 stay;");
        due.is("WILL in NIGHT 0", x.ovenOf(0, 6), 0);
        due.is("they go in NIGHT 0", x.night(), 0);
        due.is("WILL in NIGHT 1", x.ovenOf(0, 6), 1);
        x.change(0, 4, 0);
        x.change(1, 4, 0);
        due.is("they stay in NIGHT 1", x.night(), 7);
        due.is("they go in NIGHT 2", x.night(), 0);
        due.is("NIGHT is 1 more each time", x.state(0), 3);
        OvenPairs rake = new OvenPairs();
        rake.oven(RAKE, 0, 0, 9);
        due.is("NIGHT 0 is even", rake.night(), 9);
        due.is("NIGHT 1 is odd", rake.night(), 0);
    }

    private static void scoreOfAll() {
        OvenPairs x = new OvenPairs();
        x.ends(16);
        for (int k = 0; k < 6; k++) x.oven(DOORED, 9, 0, 9);
        due.is("on(16), the most", x.on(16), 1824);
        for (int night = 0; night < 16; night++) x.night();
        due.is("SCORE, the most till END 16", x.state(2), 1824);
        x.night();
        due.is("SCORE behind a refused NIGHT", x.state(2), 1824);
    }

    private static void quotientsAreCut() {
        int[] half = {0, 1, 1, 2, 2, 3, 3, 4, 4};
        OvenPairs x = new OvenPairs();
        x.oven(WIDOWED, 0, 0, 1);
        for (int fire = 1; fire <= 9; fire++) {
            x.change(0, 3, fire);
            due.is("half of " + fire, x.ovenOf(0, 5), half[fire - 1]);
        }
    }
}
