/**
 * A baking town whose ovens elope. The document shared/DOC.md numbers what each call promises.
 * The constructor makes all rows that calls use again, so that only rules() makes objects.
 */
public final class OvenPairs {
    public static final int BAD = -1, FULL = -2, NONE = -3, STATE = -4;

    private static final int NOTHING = -11, OUTSIDE = -12, OTHER_SORT = -13, BELOW_ZERO = -14, PARTED = -15;
    private static final int NO_ROW = -9, FAULTS_FROM = -100;
    private static final int MOST_OVENS = 6, NOBODY = 6, MOST_NIGHTS = 16, FIRST_END = 12;
    private static final int MOST_WARM = 9, MOST_PLACE = 15, MOST_FIRE = 9, MOST_AWAY = 9;
    private static final int FIRST_KIND = 1, LAST_KIND = 5;
    private static final int GO = 0, STAY = 1, SHY = 2;
    private static final int MOST_PLAN = 4, MOST_TIMES = 40, MOST_WORTH = 999;
    private static final int MOST_REPORTS = 6, REPORT_PARTS = 4, MOST_FELT = 20, FELT_WARM = 5;
    private static final int ROW_PARTS = 3;
    private static final int SHEETS = 4, SHELVES = 4, MOST_ITEMS = 40, MOST_ACTS = 20, MISSING = -1;
    private static final int BYTES = 0, SHORTS = 1, BOOLEANS = 4, FIRST_ROW_SORT = 10;
    private static final int HOLDS_OVEN = 0, HOLDS_ROW = 1, HOLDS_NOTHING = 2;
    private static final int MOST_TRACE = 30;
    private static final int MOST_TAPE = 200, MOST_RULES = 8, MOST_OPEN = 3, MOST_DIGITS = 4;

    /** For each KIND the set of those that it is or is under. */
    private static final int[] LINES = {1, 3, 5, 13, 17, 49};

    private final Town town = new Town();
    private final Town saved = new Town();
    private final RulesReader reader = new RulesReader();
    private final Deed deed = new Deed();
    private final int[] rows = new int[MOST_PLAN * ROW_PARTS];
    private final int[] sheetSorts = {MISSING, MISSING, MISSING, MISSING};
    private final int[] sheetSizes = new int[SHEETS];
    /** No call writes more than an int, so an int holds all that can be asked of a long. */
    private final int[][] sheetItems = new int[SHEETS][MOST_ITEMS];
    private final int[] shelfHolds = {HOLDS_NOTHING, HOLDS_NOTHING, HOLDS_NOTHING, HOLDS_NOTHING};
    /** The number of the OVEN, or the sort of the row. */
    private final int[] shelfThings = new int[SHELVES];
    /** A row's sort and size never change, so a SHELF still knows them when its SHEET has another row. */
    private final int[] shelfSizes = new int[SHELVES];
    private int rowCount;
    private boolean anySaved;

    public OvenPairs() {
    }

    // ---- ovens

    public int oven(int kind, int warm, int place, int fire) {
        if (!isKind(kind) || !isWarm(warm) || !isPlace(place) || !isFire(fire)) {
            return BAD;
        }
        if (town.count >= MOST_OVENS) {
            return FULL;
        }
        return town.addOven(kind, warm, place, fire);
    }

    public int ovenOf(int o, int what) {
        if (!isOven(o)) {
            return BAD;
        }
        switch (what) {
            case 0: return town.kind[o];
            case 1: return town.warm[o];
            case 2: return town.place[o];
            case 3: return town.fire[o];
            case 4: return town.awayOf(town.aways, o);
            case 5: return town.bakesOf(o, town.night);
            case 6: return town.willOf(o, town.night);
            case 7: return town.choiceOf(o, town.freeSet(town.aways, town.night, 0), town.night);
            default: return BAD;
        }
    }

    public int change(int o, int what, int v) {
        if (!isOven(o)) {
            return BAD;
        }
        switch (what) {
            case 1: return isWarm(v) ? town.replace(town.warm, o, v) : BAD;
            case 2: return isPlace(v) ? town.replace(town.place, o, v) : BAD;
            case 3: return isFire(v) ? town.replace(town.fire, o, v) : BAD;
            case 4: return isBetween(v, 0, MOST_AWAY) ? town.replaceAway(o, v) : BAD;
            default: return BAD;
        }
    }

    public int remake(int o, int kind) {
        if (!isOven(o) || !isKind(kind)) {
            return BAD;
        }
        return town.replace(town.kind, o, kind);
    }

    public int longing(int o, int other) {
        if (!isOven(o) || !isOven(other) || o == other) {
            return BAD;
        }
        return town.wishOf(o, other) + 100;
    }

    public int ends(int v) {
        if (!isBetween(v, 1, MOST_NIGHTS)) {
            return BAD;
        }
        if (v < town.night) {
            return STATE;
        }
        int was = town.end;
        town.end = v;
        return was;
    }

    public int anew() {
        int was = town.night;
        town.night = 0;
        town.score = 0;
        town.aways = 0;
        return was;
    }

    public int state(int what) {
        switch (what) {
            case 0: return town.night;
            case 1: return town.end;
            case 2: return town.score;
            case 3: return town.isOver() ? 1 : 0;
            case 4: return town.homeSet(town.aways);
            default: return BAD;
        }
    }

    // ---- the rules

    public int feed(long eight, int n) {
        if (!isBetween(n, 1, 8)) {
            return BAD;
        }
        if (reader.size + n > MOST_TAPE) {
            return FULL;
        }
        for (int i = 0; i < n; i++) {
            reader.takeByte((int) (eight >>> 8 * i) & 255);
        }
        return reader.size;
    }

    public int rules() {
        Rules told = reader.readTape();
        if (told == null) {
            return FAULTS_FROM - reader.fault;
        }
        town.obey(told);
        return told.count;
    }

    // ---- nights

    public int night() {
        return town.isOver() ? STATE : town.passNight(0);
    }

    public int on(int n) {
        return isBetween(n, 0, MOST_NIGHTS) ? Outlook.restWorth(town, n) : BAD;
    }

    public int goes(int o) {
        return isOven(o) ? Outlook.firstGoing(town, o) : BAD;
    }

    public int often(int o) {
        return isOven(o) ? Outlook.goings(town, o) : BAD;
    }

    public int placeFor(int o) {
        return isOven(o) ? Outlook.bestSetting(town, town.place, o, MOST_PLACE) : BAD;
    }

    public int warmFor(int o) {
        return isOven(o) ? Outlook.bestSetting(town, town.warm, o, MOST_WARM) : BAD;
    }

    // ---- weddings, chains

    public int pairs() {
        int found = 0;
        for (int o = 0; o < town.count; o++) {
            for (int other = o + 1; other < town.count; other++) {
                if (town.isPair(o, other)) {
                    found++;
                }
            }
        }
        return found;
    }

    public int weddings(int what) {
        if (!isBetween(what, 0, 1)) {
            return BAD;
        }
        int most = Outlook.mostWeddings(town);
        return what == 0 ? most / Outlook.PAIR : most % Outlook.PAIR;
    }

    public int mate(int o) {
        return isOven(o) ? Outlook.mateOf(town, o) : BAD;
    }

    public int chains(int what) {
        if (!isBetween(what, 0, 1)) {
            return BAD;
        }
        int set = Outlook.fewestChains(town);
        return what == 0 ? set : Integer.bitCount(set);
    }

    // ---- plans

    public int best(int n) {
        return isPlan(n) ? Outlook.bestWorth(town, n) : BAD;
    }

    public int ith(int n, int i) {
        if (!isPlan(n) || !isBetween(i, 0, MOST_PLAN - 1)) {
            return BAD;
        }
        if (i >= town.nightsOf(n)) {
            return NONE;
        }
        int aways = town.aways;
        for (int k = 0; k < i; k++) {
            int act = Outlook.firstBestAct(town, aways, town.night + k, n - k);
            aways = town.after(aways, town.night + k, chainOf(act));
        }
        return Outlook.firstBestAct(town, aways, town.night + i, n - i);
    }

    public int ways(int n) {
        return isPlan(n) ? Outlook.bestWays(town, n) : BAD;
    }

    public int kept(int n, int set) {
        if (!isPlan(n) || !isOvenSet(set)) {
            return BAD;
        }
        int fewest = Outlook.actsTillHome(town, n, set);
        return fewest > MOST_PLAN ? NONE : fewest;
    }

    public int bars(int n, int set) {
        if (!isPlan(n) || !isOvenSet(set)) {
            return BAD;
        }
        int barred = set & ~Outlook.everHome(town, n);
        return barred == 0 ? NONE : Integer.numberOfTrailingZeros(barred);
    }

    // ---- a game, strange ovens, lots

    public int game(int n) {
        return isGame(n) ? Outlook.valueOfGame(town, n) : BAD;
    }

    public int play(int n) {
        if (!isGame(n)) {
            return BAD;
        }
        return town.isOver() ? NONE : Outlook.firstMove(town, n);
    }

    public int report(int kind, int place, int least, int most) {
        if (!isKind(kind) || !isPlace(place) || !isFelt(least) || !isFelt(most) || most < least) {
            return BAD;
        }
        if (town.reportCount >= MOST_REPORTS) {
            return FULL;
        }
        return town.addReport(kind, place, least, most);
    }

    public int forget() {
        int were = town.reportCount;
        town.reportCount = 0;
        return were;
    }

    public int span(int what) {
        if (!isBetween(what, 0, 2)) {
            return BAD;
        }
        if (what == 0) {
            return town.fitting(MOST_REPORTS);
        }
        int first = town.firstFitting(MOST_REPORTS);
        if (first < 0) {
            return NONE;
        }
        return what == 1 ? first / (MOST_WARM + 1) : first % (MOST_WARM + 1);
    }

    public int liar() {
        if (town.firstFitting(MOST_REPORTS) >= 0) {
            return NONE;
        }
        for (int r = 0; r < town.reportCount; r++) {
            if (town.firstFitting(r) >= 0) {
                return r;
            }
        }
        return NONE;
    }

    public int seed(int v) {
        int was = town.z;
        town.z = v;
        return was;
    }

    public int lot() {
        if (town.isOver()) {
            return STATE;
        }
        town.z = nextLot(town.z);
        return town.passNight(chainOf(town.actByLot(town.z)));
    }

    public int times(int n, int v) {
        if (!isBetween(n, 1, MOST_TIMES) || !isBetween(v, 0, MOST_WORTH)) {
            return BAD;
        }
        int z = town.z;
        int reached = 0;
        for (int k = 0; k < n; k++) {
            int aways = town.aways;
            int worth = 0;
            for (int night = town.night; night < town.end; night++) {
                z = nextLot(z);
                aways = town.after(aways, night, chainOf(town.actByLot(z)));
                worth += town.worthOf(aways, night);
            }
            if (worth >= v) {
                reached++;
            }
        }
        return reached;
    }

    // ---- rows

    public int prove(int n) {
        if (!isPlan(n)) {
            return BAD;
        }
        rowCount = town.nightsOf(n);
        int aways = town.aways;
        for (int k = 0; k < rowCount; k++) {
            int night = town.night + k;
            int act = Outlook.firstBestAct(town, aways, night, n - k);
            aways = town.after(aways, night, chainOf(act));
            rows[k * ROW_PARTS] = act;
            rows[k * ROW_PARTS + 1] = town.worthOf(aways, night);
            rows[k * ROW_PARTS + 2] = town.homeSet(aways);
        }
        return rowCount;
    }

    public int row(int k, int what) {
        return isRow(k, what) ? rows[k * ROW_PARTS + what] : NO_ROW;
    }

    public int alterRow(int k, int what, int v) {
        if (!isRow(k, what)) {
            return NO_ROW;
        }
        int was = rows[k * ROW_PARTS + what];
        rows[k * ROW_PARTS + what] = v;
        return was;
    }

    public int judge() {
        int aways = town.aways;
        for (int k = 0; k < rowCount; k++) {
            int night = town.night + k;
            int act = rows[k * ROW_PARTS];
            if (!isAct(act) || night >= town.end) {
                return k + 1;
            }
            aways = town.after(aways, night, chainOf(act));
            boolean sameWorth = rows[k * ROW_PARTS + 1] == town.worthOf(aways, night);
            boolean sameHomes = rows[k * ROW_PARTS + 2] == town.homeSet(aways);
            if (!sameWorth || !sameHomes) {
                return k + 1;
            }
        }
        return 0;
    }

    // ---- the host

    public int sheet(int sheet, int sort, int n) {
        if (!isSheet(sheet) || !isBetween(sort, MISSING, BOOLEANS)) {
            return BAD;
        }
        if (sort == MISSING) {
            sheetSorts[sheet] = MISSING;
            sheetSizes[sheet] = 0;
            return 1;
        }
        if (n > MOST_ITEMS) {
            return BAD;
        }
        if (n < 0) {
            return BELOW_ZERO;
        }
        sheetSorts[sheet] = sort;
        sheetSizes[sheet] = n;
        for (int i = 0; i < n; i++) {
            sheetItems[sheet][i] = 0;
        }
        return 1;
    }

    public int write(int sheet, int i, int v) {
        if (!isSheet(sheet)) {
            return BAD;
        }
        if (sheetSorts[sheet] == MISSING) {
            return NOTHING;
        }
        if (!isItem(sheet, i)) {
            return OUTSIDE;
        }
        sheetItems[sheet][i] = narrowed(v, sheetSorts[sheet]);
        return 1;
    }

    public int item(int sheet, int sort, int i) {
        if (!isSheet(sheet) || !isBetween(sort, BYTES, BOOLEANS)) {
            return BAD;
        }
        int refusal = refusalAs(sheet, sort);
        if (refusal < 0) {
            return refusal;
        }
        return isItem(sheet, i) ? sheetItems[sheet][i] : OUTSIDE;
    }

    public int goAll(int sheet, int i, int n) {
        if (!isSheet(sheet) || !isBetween(n, 0, MOST_ACTS)) {
            return BAD;
        }
        int refusal = refusalAs(sheet, BYTES);
        if (refusal < 0) {
            return refusal;
        }
        int worth = 0;
        for (int k = 0; k < n; k++) {
            if (!isItem(sheet, i + k)) {
                return OUTSIDE;
            }
            int act = sheetItems[sheet][i + k];
            if (isAct(act) && !town.isOver()) {
                worth += town.passNight(chainOf(act));
            }
        }
        return worth;
    }

    public int wouldBe(int sheet, int i, int n) {
        if (!isSheet(sheet) || !isBetween(n, 0, MOST_ACTS)) {
            return BAD;
        }
        int refusal = refusalAs(sheet, BYTES);
        if (refusal < 0) {
            return refusal;
        }
        int aways = town.aways;
        int worth = 0;
        for (int k = 0; k < n; k++) {
            if (!isItem(sheet, i + k)) {
                return OUTSIDE;
            }
            int act = sheetItems[sheet][i + k];
            int night = town.night + k;
            if (!isAct(act) || night >= town.end) {
                return STATE;
            }
            aways = town.after(aways, night, chainOf(act));
            worth += town.worthOf(aways, night);
        }
        return worth;
    }

    public int shelf(int shelf, int what, int n) {
        if (!isShelf(shelf)) {
            return BAD;
        }
        if (what == HOLDS_OVEN && isOven(n)) {
            return putOn(shelf, HOLDS_OVEN, n, 0);
        }
        if (what == HOLDS_ROW && isSheet(n)) {
            boolean missing = sheetSorts[n] == MISSING;
            return putOn(shelf, missing ? HOLDS_NOTHING : HOLDS_ROW, sheetSorts[n], sheetSizes[n]);
        }
        return what == HOLDS_NOTHING ? putOn(shelf, HOLDS_NOTHING, 0, 0) : BAD;
    }

    public int taken(int shelf, int as) {
        boolean asRow = isBetween(as, FIRST_ROW_SORT, FIRST_ROW_SORT + BOOLEANS);
        if (!isShelf(shelf) || !asRow && !isBetween(as, 0, LAST_KIND)) {
            return BAD;
        }
        int holds = heldOn(shelf);
        if (holds == HOLDS_NOTHING) {
            return NOTHING;
        }
        int thing = shelfThings[shelf];
        if (holds == HOLDS_ROW) {
            return asRow && thing == as - FIRST_ROW_SORT ? shelfSizes[shelf] : OTHER_SORT;
        }
        return !asRow && isUnder(town.kind[thing], as) ? thing : OTHER_SORT;
    }

    public int act(int shelf, int act, int x) {
        deed.clear();
        if (!isShelf(shelf) || !isBetween(act, 0, 3) || heldOn(shelf) != HOLDS_OVEN) {
            return 0;
        }
        int o = shelfThings[shelf];
        deed.number = o;
        deed.fire = town.fire[o];
        Oven thing = town.kinds[town.kind[o]];
        int answer;
        switch (act) {
            case 0: answer = thing.glows(deed, x); break;
            case 1: answer = thing.longs(deed, x); break;
            case 2: answer = thing.parts(deed, x); break;
            default: answer = thing.weds(deed, x); break;
        }
        return deed.parted ? PARTED : answer;
    }

    public int trace(int i) {
        return isBetween(i, 0, deed.count - 1) ? deed.bodies[i] : NONE;
    }

    public int many(int what) {
        switch (what) {
            case 0: return town.count;
            case 1: return town.rules.count;
            case 2: return Integer.bitCount(town.homeSet(town.aways));
            case 3: return town.reportCount;
            case 4: return rowCount;
            case 5: return reader.size;
            case 6: return deed.count;
            default: return BAD;
        }
    }

    // ---- kept

    public int keep() {
        saved.copyFrom(town);
        anySaved = true;
        return 1;
    }

    public int again() {
        if (!anySaved) {
            return NONE;
        }
        town.copyFrom(saved);
        return town.count;
    }

    // ---- what the calls share

    private static boolean isBetween(int v, int least, int most) {
        return v >= least && v <= most;
    }

    private static boolean isKind(int kind) {
        return isBetween(kind, FIRST_KIND, LAST_KIND);
    }

    private static boolean isWarm(int warm) {
        return isBetween(warm, 0, MOST_WARM);
    }

    private static boolean isPlace(int place) {
        return isBetween(place, 0, MOST_PLACE);
    }

    private static boolean isFire(int fire) {
        return isBetween(fire, 1, MOST_FIRE);
    }

    private static boolean isPlan(int n) {
        return isBetween(n, 0, MOST_PLAN);
    }

    private static boolean isGame(int n) {
        return isBetween(n, 1, MOST_PLAN);
    }

    private static boolean isFelt(int v) {
        return isBetween(v, -MOST_FELT, MOST_FELT);
    }

    private static boolean isSheet(int sheet) {
        return isBetween(sheet, 0, SHEETS - 1);
    }

    private static boolean isShelf(int shelf) {
        return isBetween(shelf, 0, SHELVES - 1);
    }

    private boolean isOven(int o) {
        return isBetween(o, 0, town.count - 1);
    }

    private boolean isAct(int act) {
        return isBetween(act, 0, town.count);
    }

    private boolean isOvenSet(int set) {
        return (set & ~town.everybody()) == 0;
    }

    private boolean isRow(int k, int what) {
        return isBetween(k, 0, rowCount - 1) && isBetween(what, 0, ROW_PARTS - 1);
    }

    private boolean isItem(int sheet, int i) {
        return isBetween(i, 0, sheetSizes[sheet] - 1);
    }

    private static boolean isUnder(int kind, int above) {
        return isBetween(kind, 0, LAST_KIND) && (LINES[kind] >> above & 1) != 0;
    }

    private static int chainOf(int act) {
        return act <= 0 ? 0 : 1 << act - 1;
    }

    private static int nextLot(int z) {
        return z * 1103515245 + 12345;
    }

    private static int narrowed(int v, int sort) {
        switch (sort) {
            case BYTES: return (byte) v;
            case SHORTS: return (short) v;
            case BOOLEANS: return v != 0 ? 1 : 0;
            default: return v;
        }
    }

    /** What the host refuses if a SHEET's row is taken for a sort; 0 if it refuses nothing. */
    private int refusalAs(int sheet, int sort) {
        if (sheetSorts[sheet] == MISSING) {
            return NOTHING;
        }
        return sheetSorts[sheet] == sort ? 0 : OTHER_SORT;
    }

    private int putOn(int shelf, int holds, int thing, int size) {
        shelfHolds[shelf] = holds;
        shelfThings[shelf] = thing;
        shelfSizes[shelf] = size;
        return 1;
    }

    /** An OVEN may have gone by again(), and may come back: so it is looked for at each call. */
    private int heldOn(int shelf) {
        boolean gone = shelfHolds[shelf] == HOLDS_OVEN && !isOven(shelfThings[shelf]);
        return gone ? HOLDS_NOTHING : shelfHolds[shelf];
    }

    /** The thing that acts, and the bodies that ran. */
    private static final class Deed {
        final int[] bodies = new int[MOST_TRACE];
        int count;
        int number;
        int fire;
        boolean parted;

        void clear() {
            count = 0;
            parted = false;
        }

        void began(int body) {
            if (count < bodies.length) {
                bodies[count] = body;
                count++;
            }
        }
    }

    /** What a KIND does; it holds no state, so one object serves all OVENS of the KIND. */
    private static class Oven {
        int yearns(int warm, int far, int ownWarm, boolean later) {
            return warm - far;
        }

        int bakes(int fire, int night) {
            return fire;
        }

        int glows(Deed deed, int x) {
            deed.began(10);
            return x - deed.number * 3;
        }

        int longs(Deed deed, int x) {
            deed.began(11);
            return glows(deed, x) ^ deed.fire;
        }

        int parts(Deed deed, int x) {
            deed.began(12);
            int by = deed.number - deed.fire;
            if (by == 0) {
                deed.parted = true;
                return 0;
            }
            return x % by;
        }

        int weds(Deed deed, int x) {
            deed.began(13);
            return longs(deed, x) + 1;
        }
    }

    private static final class Widowed extends Oven {
        int yearns(int warm, int far, int ownWarm, boolean later) {
            return super.yearns(warm, far, ownWarm, later) - 3;
        }

        int bakes(int fire, int night) {
            return super.bakes(fire, night) / 2;
        }

        int glows(Deed deed, int x) {
            deed.began(20);
            return super.glows(deed, x) * 2;
        }
    }

    private static class Range extends Oven {
        int yearns(int warm, int far, int ownWarm, boolean later) {
            return warm >= ownWarm ? super.yearns(warm, far, ownWarm, later) : -1;
        }

        int bakes(int fire, int night) {
            return super.bakes(fire, night) * 2;
        }

        int longs(Deed deed, int x) {
            deed.began(30);
            return super.longs(deed, x) - deed.number;
        }
    }

    private static final class Doored extends Range {
        int yearns(int warm, int far, int ownWarm, boolean later) {
            return -1;
        }

        int bakes(int fire, int night) {
            return super.bakes(fire, night) + 1;
        }

        int glows(Deed deed, int x) {
            deed.began(50);
            return super.glows(deed, x) ^ 3;
        }

        int weds(Deed deed, int x) {
            deed.began(51);
            int wed = super.weds(deed, x);
            return wed * parts(deed, x);
        }
    }

    private static class Portable extends Oven {
        int yearns(int warm, int far, int ownWarm, boolean later) {
            return warm;
        }

        int parts(Deed deed, int x) {
            deed.began(40);
            return super.parts(deed, x) + deed.fire;
        }
    }

    private static final class Rake extends Portable {
        int yearns(int warm, int far, int ownWarm, boolean later) {
            return super.yearns(warm, far, ownWarm, later) + (later ? 2 : 0);
        }

        int bakes(int fire, int night) {
            return night % 2 == 0 ? super.bakes(fire, night) : 0;
        }

        int longs(Deed deed, int x) {
            deed.began(60);
            return 0 - super.longs(deed, x);
        }

        int parts(Deed deed, int x) {
            deed.began(61);
            int left = super.parts(deed, x);
            // parted by 0 ends the whole act: no body may begin behind it
            return deed.parted ? 0 : left - glows(deed, deed.number);
        }
    }

    /** All that keep() keeps. AWAY of all is one int, four bits an OVEN, so that looking ahead copies nothing. */
    private static final class Town {
        final Oven[] kinds = {new Oven(), new Widowed(), new Range(), new Doored(), new Portable(), new Rake()};
        final int[] kind = new int[MOST_OVENS];
        final int[] warm = new int[MOST_OVENS];
        final int[] place = new int[MOST_OVENS];
        final int[] fire = new int[MOST_OVENS];
        /** LONGING and WILL change only with OVENS and RULES, while nights ask for them thousands of times. */
        final int[] wishes = new int[MOST_OVENS * MOST_OVENS];
        final int[] wills = new int[(MOST_NIGHTS + 1) * MOST_OVENS];
        final int[] choices = new int[MOST_OVENS];
        final int[] facts = new int[Rules.FACTS];
        final int[] reports = new int[MOST_REPORTS * REPORT_PARTS];
        Rules rules = new Rules(0);
        int count;
        int aways;
        int night;
        int end = FIRST_END;
        int score;
        int z = 1;
        int reportCount;

        void copyFrom(Town that) {
            System.arraycopy(that.kind, 0, kind, 0, MOST_OVENS);
            System.arraycopy(that.warm, 0, warm, 0, MOST_OVENS);
            System.arraycopy(that.place, 0, place, 0, MOST_OVENS);
            System.arraycopy(that.fire, 0, fire, 0, MOST_OVENS);
            System.arraycopy(that.wishes, 0, wishes, 0, wishes.length);
            System.arraycopy(that.wills, 0, wills, 0, wills.length);
            System.arraycopy(that.reports, 0, reports, 0, reports.length);
            rules = that.rules;
            count = that.count;
            aways = that.aways;
            night = that.night;
            end = that.end;
            score = that.score;
            z = that.z;
            reportCount = that.reportCount;
        }

        int addOven(int itsKind, int itsWarm, int itsPlace, int itsFire) {
            int o = count;
            kind[o] = itsKind;
            warm[o] = itsWarm;
            place[o] = itsPlace;
            fire[o] = itsFire;
            count++;
            settle(o);
            return o;
        }

        int replace(int[] values, int o, int v) {
            int was = values[o];
            values[o] = v;
            settle(o);
            return was;
        }

        int replaceAway(int o, int v) {
            int was = awayOf(aways, o);
            aways += v - was << 4 * o;
            return was;
        }

        void obey(Rules told) {
            rules = told;
            for (int o = 0; o < count; o++) {
                settleWills(o);
            }
        }

        void settle(int o) {
            for (int other = 0; other < count; other++) {
                if (other != o) {
                    settleWish(o, other);
                    settleWish(other, o);
                }
            }
            settleWills(o);
        }

        private void settleWish(int o, int other) {
            int far = Math.abs(place[o] - place[other]);
            wishes[o * MOST_OVENS + other] = kinds[kind[o]].yearns(warm[other], far, warm[o], other > o);
        }

        private void settleWills(int o) {
            facts[1] = warm[o];
            facts[2] = place[o];
            facts[3] = fire[o];
            facts[4] = o;
            for (int at = 0; at <= MOST_NIGHTS; at++) {
                facts[0] = at;
                wills[at * MOST_OVENS + o] = rules.tellsOf(kind[o], facts);
            }
        }

        boolean isOver() {
            return night >= end;
        }

        /** How many NIGHTS a PLAN of n has. */
        int nightsOf(int n) {
            return Math.max(0, Math.min(n, end - night));
        }

        int everybody() {
            return (1 << count) - 1;
        }

        int wishOf(int o, int other) {
            return wishes[o * MOST_OVENS + other];
        }

        boolean isPair(int o, int other) {
            return wishOf(o, other) > 0 && wishOf(other, o) > 0;
        }

        int willOf(int o, int at) {
            return wills[at * MOST_OVENS + o];
        }

        int bakesOf(int o, int at) {
            return kinds[kind[o]].bakes(fire[o], at);
        }

        int awayOf(int packed, int o) {
            return packed >>> 4 * o & 15;
        }

        int homeSet(int packed) {
            int set = 0;
            for (int o = 0; o < count; o++) {
                if (awayOf(packed, o) == 0) {
                    set |= 1 << o;
                }
            }
            return set;
        }

        int freeSet(int packed, int at, int chained) {
            int set = homeSet(packed) & ~chained;
            for (int o = 0; o < count; o++) {
                if (willOf(o, at) == STAY) {
                    set &= ~(1 << o);
                }
            }
            return set;
        }

        int choiceOf(int o, int free, int at) {
            if ((free >> o & 1) == 0) {
                return NOBODY;
            }
            int choice = NOBODY;
            int most = willOf(o, at) == SHY ? 3 : 0;
            for (int other = 0; other < count; other++) {
                boolean canBe = other != o && (free >> other & 1) != 0;
                if (canBe && wishOf(o, other) > most) {
                    most = wishOf(o, other);
                    choice = other;
                }
            }
            return choice;
        }

        int oneLess(int packed) {
            int less = packed;
            for (int o = 0; o < count; o++) {
                if (awayOf(packed, o) != 0) {
                    less -= 1 << 4 * o;
                }
            }
            return less;
        }

        /** AWAY of all behind a NIGHT in which a set is CHAINED. */
        int after(int packed, int at, int chained) {
            int then = oneLess(packed);
            int free = freeSet(then, at, chained);
            for (int o = 0; o < count; o++) {
                choices[o] = choiceOf(o, free, at);
            }
            for (int o = 0; o < count; o++) {
                int mate = choices[o];
                if (mate > o && mate < count && choices[mate] == o) {
                    int away = 2 + Math.abs(place[o] - place[mate]) / 4;
                    then |= away << 4 * o | away << 4 * mate;
                }
            }
            return then;
        }

        /** What a NIGHT is WORTH, by AWAY of all behind it. */
        int worthOf(int packed, int at) {
            int worth = 0;
            for (int o = 0; o < count; o++) {
                if (awayOf(packed, o) == 0) {
                    worth += bakesOf(o, at);
                }
            }
            return worth;
        }

        int passNight(int chained) {
            aways = after(aways, night, chained);
            int worth = worthOf(aways, night);
            score += worth;
            night++;
            return worth;
        }

        int actByLot(int drawn) {
            return (drawn >>> 16) % (count + 1);
        }

        int addReport(int itsKind, int itsPlace, int least, int most) {
            int at = reportCount * REPORT_PARTS;
            reports[at] = itsKind;
            reports[at + 1] = itsPlace;
            reports[at + 2] = least;
            reports[at + 3] = most;
            reportCount++;
            return reportCount - 1;
        }

        private boolean isSo(int r, int strangePlace, int strangeWarm) {
            int at = r * REPORT_PARTS;
            int far = Math.abs(reports[at + 1] - strangePlace);
            int felt = kinds[reports[at]].yearns(strangeWarm, far, FELT_WARM, false);
            return felt >= reports[at + 2] && felt <= reports[at + 3];
        }

        private boolean fits(int strangePlace, int strangeWarm, int but) {
            for (int r = 0; r < reportCount; r++) {
                if (r != but && !isSo(r, strangePlace, strangeWarm)) {
                    return false;
                }
            }
            return true;
        }

        /** How many STRANGE OVENS FIT all REPORTS but one (MOST_REPORTS: all of them). */
        int fitting(int but) {
            int found = 0;
            for (int k = 0; k < (MOST_PLACE + 1) * (MOST_WARM + 1); k++) {
                if (fits(k / (MOST_WARM + 1), k % (MOST_WARM + 1), but)) {
                    found++;
                }
            }
            return found;
        }

        /** The first that FITS likewise, its WARM below its PLACE as a last digit; -1 if none does. */
        int firstFitting(int but) {
            for (int k = 0; k < (MOST_PLACE + 1) * (MOST_WARM + 1); k++) {
                if (fits(k / (MOST_WARM + 1), k % (MOST_WARM + 1), but)) {
                    return k;
                }
            }
            return -1;
        }
    }

    /** Looks ahead from how a town is; it holds nothing itself, and leaves the town as it was. */
    private static final class Outlook {
        /** One pair more outweighs all LONGING that six OVENS can have. */
        static final int PAIR = 1000;
        private static final int UNREACHED = 1000;

        static int restWorth(Town town, int n) {
            int aways = town.aways;
            int worth = 0;
            for (int k = 0; k < town.nightsOf(n); k++) {
                aways = town.after(aways, town.night + k, 0);
                worth += town.worthOf(aways, town.night + k);
            }
            return worth;
        }

        /** AWAY grows only when one goes off. */
        private static boolean went(Town town, int before, int then, int o) {
            return town.awayOf(then, o) > town.awayOf(before, o);
        }

        static int firstGoing(Town town, int o) {
            int aways = town.aways;
            for (int night = town.night; night < town.end; night++) {
                int then = town.after(aways, night, 0);
                if (went(town, aways, then, o)) {
                    return night;
                }
                aways = then;
            }
            return NONE;
        }

        static int goings(Town town, int o) {
            int aways = town.aways;
            int found = 0;
            for (int night = town.night; night < town.end; night++) {
                int then = town.after(aways, night, 0);
                if (went(town, aways, then, o)) {
                    found++;
                }
                aways = then;
            }
            return found;
        }

        /** The least value (0 to top) of an OVEN with which THE REST is WORTH most; the OVEN is put back as it was. */
        static int bestSetting(Town town, int[] values, int o, int top) {
            int was = values[o];
            int most = -1;
            int least = 0;
            for (int v = 0; v <= top; v++) {
                values[o] = v;
                town.settle(o);
                int worth = restWorth(town, MOST_NIGHTS);
                if (worth > most) {
                    most = worth;
                    least = v;
                }
            }
            values[o] = was;
            town.settle(o);
            return least;
        }

        private static boolean nobodyGoes(Town town, int chained) {
            int aways = town.aways;
            for (int night = town.night; night < town.end; night++) {
                int then = town.after(aways, night, chained);
                if (then != town.oneLess(aways)) {
                    return false;
                }
                aways = then;
            }
            return true;
        }

        static int fewestChains(Town town) {
            int fewest = town.everybody();
            for (int set = 0; set < town.everybody(); set++) {
                if (Integer.bitCount(set) < Integer.bitCount(fewest) && nobodyGoes(town, set)) {
                    fewest = set;
                }
            }
            return fewest;
        }

        private static int weddingOf(Town town, int o, int other) {
            return PAIR + town.wishOf(o, other) + town.wishOf(other, o);
        }

        /** PAIR for each pair, and the LONGING of all in pairs together. */
        static int mostWeddings(Town town) {
            return mostWed(town, town.everybody(), 0);
        }

        /** MOST of those OVENS of a set from one on, counted likewise. */
        private static int mostWed(Town town, int set, int from) {
            if (from >= town.count) {
                return 0;
            }
            int most = mostWed(town, set, from + 1);
            if ((set >> from & 1) == 0) {
                return most;
            }
            for (int other = from + 1; other < town.count; other++) {
                if ((set >> other & 1) != 0 && town.isPair(from, other)) {
                    int wed = weddingOf(town, from, other) + mostWed(town, set & ~(1 << other), from + 1);
                    most = Math.max(most, wed);
                }
            }
            return most;
        }

        /** The least mate by which the OVENS of a set, from one of them on, still come to MOST. */
        private static int firstMate(Town town, int set, int from) {
            int most = mostWed(town, set, from);
            for (int other = from + 1; other < town.count; other++) {
                if ((set >> other & 1) != 0 && town.isPair(from, other)
                        && weddingOf(town, from, other) + mostWed(town, set & ~(1 << other), from + 1) == most) {
                    return other;
                }
            }
            return NOBODY;
        }

        static int mateOf(Town town, int o) {
            int set = town.everybody();
            for (int from = 0; from <= o; from++) {
                if ((set >> from & 1) != 0) {
                    int mate = firstMate(town, set, from);
                    if (from == o || mate == o) {
                        return from == o ? mate : from;
                    }
                    set &= ~(1 << mate);
                }
            }
            return NOBODY;
        }

        static int bestWorth(Town town, int n) {
            return mostWorth(town, town.aways, town.night, n);
        }

        private static int mostWorth(Town town, int aways, int night, int left) {
            if (left <= 0 || night >= town.end) {
                return 0;
            }
            int most = 0;
            for (int act = 0; act <= town.count; act++) {
                int then = town.after(aways, night, chainOf(act));
                most = Math.max(most, town.worthOf(then, night) + mostWorth(town, then, night + 1, left - 1));
            }
            return most;
        }

        static int firstBestAct(Town town, int aways, int night, int left) {
            int first = 0;
            int most = -1;
            for (int act = 0; act <= town.count; act++) {
                int then = town.after(aways, night, chainOf(act));
                int worth = town.worthOf(then, night) + mostWorth(town, then, night + 1, left - 1);
                if (worth > most) {
                    most = worth;
                    first = act;
                }
            }
            return first;
        }

        static int bestWays(Town town, int n) {
            int most = mostWorth(town, town.aways, town.night, n);
            return plansWorth(town, town.aways, town.night, n, most);
        }

        private static int plansWorth(Town town, int aways, int night, int left, int worth) {
            if (left <= 0 || night >= town.end) {
                return worth == 0 ? 1 : 0;
            }
            int found = 0;
            for (int act = 0; act <= town.count; act++) {
                int then = town.after(aways, night, chainOf(act));
                found += plansWorth(town, then, night + 1, left - 1, worth - town.worthOf(then, night));
            }
            return found;
        }

        /** Above all that a PLAN can have, if no PLAN leads there. */
        static int actsTillHome(Town town, int n, int set) {
            return fewestActs(town, town.aways, town.night, n, set);
        }

        private static int fewestActs(Town town, int aways, int night, int left, int set) {
            if (left <= 0 || night >= town.end) {
                return (town.homeSet(aways) & set) == set ? 0 : UNREACHED;
            }
            int fewest = UNREACHED;
            for (int act = 0; act <= town.count; act++) {
                int then = town.after(aways, night, chainOf(act));
                int acts = (act == 0 ? 0 : 1) + fewestActs(town, then, night + 1, left - 1, set);
                fewest = Math.min(fewest, acts);
            }
            return fewest;
        }

        static int everHome(Town town, int n) {
            return homeBehindSome(town, town.aways, town.night, n);
        }

        private static int homeBehindSome(Town town, int aways, int night, int left) {
            if (left <= 0 || night >= town.end) {
                return town.homeSet(aways);
            }
            int set = 0;
            for (int act = 0; act <= town.count; act++) {
                int then = town.after(aways, night, chainOf(act));
                set |= homeBehindSome(town, then, night + 1, left - 1);
            }
            return set;
        }

        static int valueOfGame(Town town, int n) {
            return gameValue(town, town.aways, town.night, n, true);
        }

        private static int gameValue(Town town, int aways, int night, int left, boolean wantsMost) {
            if (left <= 0 || night >= town.end) {
                return 0;
            }
            int value = 0;
            for (int act = 0; act <= town.count; act++) {
                int then = town.after(aways, night, chainOf(act));
                int worth = town.worthOf(then, night) + gameValue(town, then, night + 1, left - 1, !wantsMost);
                boolean better = wantsMost ? worth > value : worth < value;
                if (act == 0 || better) {
                    value = worth;
                }
            }
            return value;
        }

        static int firstMove(Town town, int n) {
            int first = 0;
            int most = -1;
            for (int act = 0; act <= town.count; act++) {
                int then = town.after(town.aways, town.night, chainOf(act));
                int worth = town.worthOf(then, town.night) + gameValue(town, then, town.night + 1, n - 1, false);
                if (worth > most) {
                    most = worth;
                    first = act;
                }
            }
            return first;
        }
    }

    /** RULES as they were told; nobody changes them once they are read, so towns may share them. */
    private static final class Rules {
        static final int LESS = 0, SAME = 1, GREATER = 2, NOT = 3, AND = 4, OR = 5;
        static final int FACTS = 5;
        /** Values from here on are FACTS, those below are NUMBERS. */
        static final int FIRST_FACT = 10000;
        private static final int STEP_PARTS = 3;

        final int[] kinds = new int[MOST_RULES];
        final int[] wills = new int[MOST_RULES];
        /** For each RULE how many steps there are up to its end. */
        final int[] ends = new int[MOST_RULES];
        /** Conditions with each sign behind what it joins: what it does, left, right. */
        final int[] steps;
        int count;
        int stepCount;

        Rules(int mostSteps) {
            steps = new int[Math.max(0, mostSteps) * STEP_PARTS];
        }

        void addRule(int kind, int will) {
            if (count < MOST_RULES) {
                kinds[count] = kind;
                wills[count] = will;
                ends[count] = stepCount;
                count++;
            }
        }

        void addStep(int sign, int left, int right) {
            int at = stepCount * STEP_PARTS;
            if (at + STEP_PARTS <= steps.length) {
                steps[at] = sign;
                steps[at + 1] = left;
                steps[at + 2] = right;
                stepCount++;
            }
        }

        int tellsOf(int kind, int[] facts) {
            for (int r = 0; r < count; r++) {
                if (isUnder(kind, kinds[r]) && holds(r, facts)) {
                    return wills[r];
                }
            }
            return GO;
        }

        /** Three "(" within one another leave fewer than ten answers open: the bits of an int hold them. */
        private boolean holds(int r, int[] facts) {
            int open = 1;
            for (int k = r == 0 ? 0 : ends[r - 1]; k < ends[r]; k++) {
                int sign = steps[k * STEP_PARTS];
                if (sign <= GREATER) {
                    open = open << 1 | (compares(k, facts) ? 1 : 0);
                } else if (sign == NOT) {
                    open ^= 1;
                } else {
                    int last = open & 1;
                    open >>>= 1;
                    open = sign == AND ? open & (last | ~1) : open | last;
                }
            }
            return (open & 1) != 0;
        }

        private boolean compares(int k, int[] facts) {
            int left = valueOf(steps[k * STEP_PARTS + 1], facts);
            int right = valueOf(steps[k * STEP_PARTS + 2], facts);
            switch (steps[k * STEP_PARTS]) {
                case LESS: return left < right;
                case SAME: return left == right;
                default: return left > right;
            }
        }

        private static int valueOf(int value, int[] facts) {
            boolean isFact = value >= FIRST_FACT && value - FIRST_FACT < facts.length;
            return isFact ? facts[value - FIRST_FACT] : value;
        }
    }

    /** THE TAPE, and what reads RULES off it. */
    private static final class RulesReader {
        /** Names of eight signs each, by their codes: KINDS, DO, the joining ones, FACTS. */
        private static final String NAMES =
            "oven    widowed range   doored  portablerake    go      stay    shy     if      or      and     not     night   warm    place   fire    number  ";
        private static final int NAME_SIGNS = 8, NAME_COUNT = 18, BLANK = 32;
        private static final int LAST_KIND_NAME = 5, FIRST_DO = 6, LAST_DO = 8;
        private static final int IF = 9, OR = 10, AND = 11, NOT = 12, FIRST_FACT = 13, LAST_FACT = 17;
        private static final int NUMBER = 18, SEMICOLON = 19, LESS = 20, SAME = 21, GREATER = 22;
        private static final int OPEN = 23, CLOSE = 24, STRANGE = 25, END = 26;

        private final int[] tape = new int[MOST_TAPE];
        private final int[] codes = new int[MOST_TAPE + 1];
        private final int[] places = new int[MOST_TAPE + 1];
        private final int[] numbers = new int[MOST_TAPE + 1];
        private int wordCount;
        private int at;
        int size;
        int fault;

        void takeByte(int v) {
            if (size < MOST_TAPE) {
                tape[size] = v;
                size++;
            }
        }

        /** Uses THE TAPE up; null if it has a fault. */
        Rules readTape() {
            splitTape();
            size = 0;
            at = 0;
            Rules told = new Rules(wordCount);
            boolean well = true;
            for (int r = 0; r < MOST_RULES && well && codes[at] != END; r++) {
                well = readRule(told);
            }
            fault = places[at];
            return well && codes[at] == END ? told : null;
        }

        private void splitTape() {
            wordCount = 0;
            int behind = 0;
            for (int p = 0; p < size; p = Math.max(p + 1, behind)) {
                behind = wordEnd(p);
                if (tape[p] != BLANK) {
                    codes[wordCount] = codeOf(p, behind);
                    places[wordCount] = p;
                    numbers[wordCount] = codes[wordCount] == NUMBER ? numberOf(p, behind) : 0;
                    wordCount++;
                }
            }
            codes[wordCount] = END;
            places[wordCount] = size;
        }

        private static boolean isLetter(int c) {
            return c >= 'a' && c <= 'z';
        }

        private static boolean isDigit(int c) {
            return c >= '0' && c <= '9';
        }

        private int wordEnd(int from) {
            int p = from + 1;
            if (isLetter(tape[from])) {
                while (p < size && isLetter(tape[p])) {
                    p++;
                }
            } else if (isDigit(tape[from])) {
                while (p < size && isDigit(tape[p])) {
                    p++;
                }
            }
            return p;
        }

        private int codeOf(int from, int behind) {
            if (isLetter(tape[from])) {
                return nameCode(from, behind - from);
            }
            if (isDigit(tape[from])) {
                return behind - from <= MOST_DIGITS ? NUMBER : STRANGE;
            }
            switch (tape[from]) {
                case ';': return SEMICOLON;
                case '<': return LESS;
                case '=': return SAME;
                case '>': return GREATER;
                case '(': return OPEN;
                case ')': return CLOSE;
                default: return STRANGE;
            }
        }

        private int nameCode(int from, int length) {
            for (int name = 0; name < NAME_COUNT; name++) {
                if (isName(name, from, length)) {
                    return name;
                }
            }
            return STRANGE;
        }

        private boolean isName(int name, int from, int length) {
            if (length > NAME_SIGNS) {
                return false;
            }
            for (int k = 0; k < NAME_SIGNS; k++) {
                int sign = k < length ? tape[from + k] : BLANK;
                if (NAMES.charAt(name * NAME_SIGNS + k) != sign) {
                    return false;
                }
            }
            return true;
        }

        private int numberOf(int from, int behind) {
            int number = 0;
            for (int p = from; p < behind; p++) {
                number = number * 10 + tape[p] - '0';
            }
            return number;
        }

        /** Goes behind a word, if its code lies between two; else stays, for there is the fault. */
        private boolean pass(int least, int most) {
            boolean can = at < wordCount && codes[at] >= least && codes[at] <= most;
            if (can) {
                at++;
            }
            return can;
        }

        private boolean readRule(Rules told) {
            int kind = codes[at];
            if (!pass(0, LAST_KIND_NAME)) {
                return false;
            }
            if (pass(IF, IF) && !readCondition(told, 0)) {
                return false;
            }
            int will = codes[at] - FIRST_DO;
            if (!pass(FIRST_DO, LAST_DO) || !pass(SEMICOLON, SEMICOLON)) {
                return false;
            }
            told.addRule(kind, will);
            return true;
        }

        private boolean readCondition(Rules told, int depth) {
            if (!readAll(told, depth)) {
                return false;
            }
            for (int k = 0; k < MOST_TAPE && pass(OR, OR); k++) {
                if (!readAll(told, depth)) {
                    return false;
                }
                told.addStep(Rules.OR, 0, 0);
            }
            return true;
        }

        private boolean readAll(Rules told, int depth) {
            if (!readOne(told, depth)) {
                return false;
            }
            for (int k = 0; k < MOST_TAPE && pass(AND, AND); k++) {
                if (!readOne(told, depth)) {
                    return false;
                }
                told.addStep(Rules.AND, 0, 0);
            }
            return true;
        }

        private boolean readOne(Rules told, int depth) {
            boolean turned = false;
            for (int k = 0; k < MOST_TAPE && pass(NOT, NOT); k++) {
                turned = !turned;
            }
            boolean well = codes[at] == OPEN ? readBracket(told, depth) : readSign(told);
            if (well && turned) {
                told.addStep(Rules.NOT, 0, 0);
            }
            return well;
        }

        private boolean readBracket(Rules told, int depth) {
            return depth < MOST_OPEN && pass(OPEN, OPEN)
                && readCondition(told, depth + 1) && pass(CLOSE, CLOSE);
        }

        private boolean readSign(Rules told) {
            int left = valueHere();
            if (!pass(FIRST_FACT, NUMBER)) {
                return false;
            }
            int sign = codes[at] - LESS;
            if (!pass(LESS, GREATER)) {
                return false;
            }
            int right = valueHere();
            if (!pass(FIRST_FACT, NUMBER)) {
                return false;
            }
            told.addStep(sign, left, right);
            return true;
        }

        private int valueHere() {
            boolean isFact = codes[at] >= FIRST_FACT && codes[at] <= LAST_FACT;
            return isFact ? Rules.FIRST_FACT + codes[at] - FIRST_FACT : numbers[at];
        }
    }
}
