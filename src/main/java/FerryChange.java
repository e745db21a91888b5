import java.util.Arrays;

/** A ferry whose passengers declare what will be different about them; see README.md. */
public final class FerryChange {
    public static final int BAD = -1, FULL = -2, FINDING = -3, STATE = -4, SPENT = -6, NONE = -9;

    private static final int NOTHING = 1, BEYOND = 2, UNLIKE = 3, NOUGHT = 4, SIZE = 5;
    private static final int ACCEPTED = 0;
    private static final int ROWS = 6, ROW_PLACES = 40, TEXTS = 4, TEXT_PLACES = 60, PLACES_KEPT = 3;
    private static final int DECLARATIONS = 7, LIVES = 1000, MOST_TOGETHER = 27;
    private static final int BLANK = 32, ITEM_SIGNS = 5;
    private static final int MOST_CROSSINGS = 4, MOST_LOTS = 20, MOST_WEIGHT = 180;
    private static final int TWELVE = 12;
    private static final long LOT_FACTOR = 48271L, LOT_MODULUS = 2147483647L;

    private final Row[] rows = new Row[ROWS];
    private final Row[] texts = new Row[TEXTS];
    private final Ferry ferry = new Ferry();
    private final Ferry[] kept = new Ferry[PLACES_KEPT];
    private final int[] findingCounts = new int[SIZE + 1];
    private int lastFinding = 0;
    private int lastAsked = 0;
    private long lastUpper = 0L;
    private long lastLower = 1L;

    // Made once and used again by every call: what a run makes is counted.
    private final Search search = new Search();
    private final int[] crossingsTo = new int[LIVES];
    private final int[] parts = new int[MOST_TOGETHER + 1];
    private final int[] fewestBoats = new int[1 << Ferry.MOST];

    public FerryChange() {
        for (int r = 0; r < ROWS; r++) {
            rows[r] = new Row(ROW_PLACES);
        }
        for (int t = 0; t < TEXTS; t++) {
            texts[t] = new Row(TEXT_PLACES);
        }
        for (int k = 0; k < PLACES_KEPT; k++) {
            kept[k] = new Ferry();
        }
    }

    // ---- 1 rows, texts, ferries

    public int row(int r, int n) {
        if (!isRow(r) || n > ROW_PLACES) {
            return BAD;
        }
        if (n < 0) {
            return answerFinding(SIZE);
        }
        rows[r].renew(n, 0);
        return n;
    }

    public int lay(int r, int i, int v) {
        if (!isRow(r)) {
            return BAD;
        }
        int refusal = refusalOfPlace(rows[r], i);
        if (refusal != ACCEPTED) {
            return refusal;
        }
        lastAsked = rows[r].places[i];
        rows[r].places[i] = v;
        return 1;
    }

    public int at(int r, int i) {
        if (!isRow(r)) {
            return BAD;
        }
        int refusal = refusalOfPlace(rows[r], i);
        if (refusal != ACCEPTED) {
            return refusal;
        }
        lastAsked = rows[r].places[i];
        return 1;
    }

    public int tear(int r) {
        if (!isRow(r)) {
            return BAD;
        }
        if (rows[r].isMissing()) {
            return answerFinding(NOTHING);
        }
        rows[r].size = Row.MISSING;
        return 1;
    }

    public int copy(int r, int i, int to, int j, int n) {
        if (!isRow(r) || !isRow(to)) {
            return BAD;
        }
        if (n < 0) {
            return answerFinding(SIZE);
        }
        if (rows[r].isMissing() || rows[to].isMissing()) {
            return answerFinding(NOTHING);
        }
        if (!rows[r].hasPlaces(i, n) || !rows[to].hasPlaces(j, n)) {
            return answerFinding(BEYOND);
        }
        System.arraycopy(rows[r].places, i, rows[to].places, j, n);
        return 1;
    }

    public int mean(int r) {
        if (!isRow(r)) {
            return BAD;
        }
        Row row = rows[r];
        if (row.isMissing()) {
            return answerFinding(NOTHING);
        }
        if (row.size == 0) {
            return answerFinding(NOUGHT);
        }
        long sum = 0L;
        for (int i = 0; i < row.size; i++) {
            sum += row.places[i];
        }
        lastAsked = (int) (sum / row.size);
        return 1;
    }

    public int text(int t, int n) {
        if (!isText(t) || n > TEXT_PLACES) {
            return BAD;
        }
        if (n < 0) {
            return answerFinding(SIZE);
        }
        texts[t].renew(n, BLANK);
        return n;
    }

    public int put(int t, int i, int v) {
        if (!isText(t)) {
            return BAD;
        }
        int refusal = refusalOfPlace(texts[t], i);
        if (refusal != ACCEPTED) {
            return refusal;
        }
        int was = texts[t].places[i];
        texts[t].places[i] = (byte) v;
        return was + 1000;
    }

    public int fault(int t) {
        if (!isText(t)) {
            return BAD;
        }
        if (texts[t].isMissing()) {
            return answerFinding(NOTHING);
        }
        return placeOfFault(texts[t]);
    }

    public int ferry(int t) {
        if (!isText(t)) {
            return BAD;
        }
        if (texts[t].isMissing()) {
            return answerFinding(NOTHING);
        }
        if (placeOfFault(texts[t]) != NONE) {
            return STATE;
        }
        boardAll(texts[t]);
        for (Ferry one : kept) {
            one.clear();
        }
        return ferry.size;
    }

    public int passenger(int i, int what) {
        if (!isPassenger(i) || what < 0 || what > 6) {
            return BAD;
        }
        lastAsked = knownOf(i, what);
        return 1;
    }

    public int mark(int i, int kind) {
        if (!isPassenger(i) || kind <= Kinds.PASSENGER || kind > Kinds.CLERK) {
            return BAD;
        }
        int own = ferry.kind[i];
        if (!Kinds.isOf(own, kind)) {
            return answerFinding(UNLIKE);
        }
        switch (kind) {
            case Kinds.BRIDE:
                return Kinds.stepOf(own, ferry.crossing);
            case Kinds.LIAR:
                return Integer.bitCount(Kinds.landings(own, ferry.life[i], ferry.crossing));
            case Kinds.WIDOWER:
                return Life.leastThing(ferry.life[i]);
            case Kinds.SAILOR:
                return ferry.crossing % 2;
            default:
                return ferry.othersOnBankOf(i);
        }
    }

    // ---- 2 deeds

    public int cross(int i, int c) {
        if (!isPassenger(i) || !isDeclaration(c)) {
            return BAD;
        }
        if (!ferry.hasRoomFor(1)) {
            return FULL;
        }
        return ferry.takeOver(i, c) ? 1 : 0;
    }

    public int set(int i, int thing, int v) {
        if (!isPassenger(i) || thing < 0 || thing >= Life.THINGS || v < 0 || v > Life.MOST) {
            return BAD;
        }
        int was = Life.thing(ferry.life[i], thing);
        if (was == v) {
            return STATE;
        }
        if (!ferry.hasRoomFor(1)) {
            return FULL;
        }
        ferry.setByHand(i, thing, v);
        return was;
    }

    public int undo(int n) {
        if (n < 0 || n > ferry.deeds) {
            return BAD;
        }
        return ferry.undoFrom(n);
    }

    public int keep(int k) {
        if (!isPlaceKept(k)) {
            return BAD;
        }
        if (ferry.isEmpty()) {
            return STATE;
        }
        kept[k].takeFrom(ferry);
        return ferry.deeds;
    }

    public int on(int k) {
        if (!isPlaceKept(k)) {
            return BAD;
        }
        if (kept[k].isEmpty()) {
            return answerFinding(NOTHING);
        }
        ferry.takeFrom(kept[k]);
        return ferry.deeds;
    }

    // ---- 3 who one would be (aside)

    public int changes(int i, int c, int number) {
        if (!isPassenger(i) || !isDeclaration(c) || number < 0 || number > 99) {
            return -100;
        }
        lastAsked = Kinds.thingOf(ferry.kind[i], c);
        return Kinds.changeOf(ferry.kind[i], c, number);
    }

    public int run(int i, int r) {
        if (!isPassenger(i) || !isRow(r)) {
            return BAD;
        }
        Row row = rows[r];
        int refusal = refusalOfRow(row, 0, 20, 0, DECLARATIONS - 1);
        if (refusal != ACCEPTED) {
            return refusal;
        }
        int life = ferry.life[i];
        int landed = 0;
        for (int k = 0; k < row.size; k++) {
            int then = Kinds.landing(ferry.kind[i], life, row.places[k], ferry.crossing + k);
            if (then != Kinds.ROUND) {
                life = then;
                landed++;
            }
        }
        lastAsked = life;
        return landed;
    }

    public int fewest(int i, int r, int bank, int to) {
        if (!isPassenger(i) || !isRow(r) || !isRow(to) || bank < -1 || bank > 1) {
            return BAD;
        }
        int refusal = refusalOfRow(rows[r], Life.THINGS, Life.THINGS, -1, Life.MOST);
        if (refusal != ACCEPTED) {
            return refusal;
        }
        search.kind = ferry.kind[i];
        search.number = ferry.crossing;
        System.arraycopy(rows[r].places, 0, search.wanted, 0, Life.THINGS);
        search.bank = bank;
        for (int n = 0; n <= MOST_CROSSINGS; n++) {
            search.crossings = n;
            if (isFound(search, 0, ferry.life[i], ferry.bank[i])) {
                rows[to].renew(n, 0);
                System.arraycopy(search.path, 0, rows[to].places, 0, n);
                return n;
            }
        }
        return NONE;
    }

    public int lives(int i, int n) {
        if (!isPassenger(i) || n < 0 || n > MOST_CROSSINGS) {
            return BAD;
        }
        Arrays.fill(crossingsTo, NONE);
        crossingsTo[ferry.life[i]] = 0;
        int found = 1;
        for (int k = 0; k < n; k++) {
            found += livesNewlyFound(ferry.kind[i], k);
        }
        tell(found, 1L);
        return 1;
    }

    // ---- 4 what was declared, who it was

    public int declared(int i, int r) {
        if (!isPassenger(i) || !isRow(r)) {
            return BAD;
        }
        int refusal = refusalOfRow(rows[r], Life.THINGS, Life.THINGS, -1, Life.MOST);
        if (refusal != ACCEPTED) {
            return refusal;
        }
        int bits = 0;
        for (int c = 0; c < DECLARATIONS; c++) {
            if (Life.isAs(Kinds.lifeThen(ferry.kind[i], ferry.life[i], c, ferry.crossing), rows[r].places)) {
                bits |= 1 << c;
            }
        }
        return bits;
    }

    public int kinds(int i, int r) {
        if (!isPassenger(i) || !isRow(r)) {
            return BAD;
        }
        int refusal = refusalOfPairs(rows[r]);
        if (refusal != ACCEPTED) {
            return refusal;
        }
        return kindsThatFit(i, rows[r]);
    }

    public int next(int i, int r) {
        if (!isPassenger(i) || !isRow(r)) {
            return BAD;
        }
        int refusal = refusalOfPairs(rows[r]);
        if (refusal != ACCEPTED) {
            return refusal;
        }
        int bits = kindsThatFit(i, rows[r]);
        if (bits == 0) {
            return NONE;
        }
        int best = 0;
        int least = Kinds.HOW_MANY + 1;
        for (int c = 0; c < DECLARATIONS; c++) {
            int part = greatestPart(bits, ferry.life[i], c);
            if (part < least) {
                least = part;
                best = c;
            }
        }
        lastAsked = least;
        return best;
    }

    // ---- 5 by weight

    public int boats(int load) {
        if (load < 0 || load > 99) {
            return BAD;
        }
        if (ferry.isEmpty()) {
            return STATE;
        }
        if (ferry.heaviest() > load) {
            return NONE;
        }
        int all = ferry.setCount() - 1;
        fewestBoats[0] = 0;
        for (int set = 1; set <= all; set++) {
            fewestBoats[set] = fewestBoatsOf(set, load);
        }
        lastAsked = firstBoat(all, load);
        return fewestBoats[all];
    }

    public int sets(int v) {
        if (v < 0 || v > MOST_WEIGHT) {
            return BAD;
        }
        if (ferry.isEmpty()) {
            return STATE;
        }
        int first = NONE;
        int found = 0;
        for (int set = 0; set < ferry.setCount(); set++) {
            if (ferry.weightOfSet(set) == v) {
                first = found == 0 ? set : first;
                found++;
            }
        }
        lastAsked = first;
        tell(found, 1L);
        return 1;
    }

    public int sure(int v) {
        if (v < 0 || v > MOST_WEIGHT) {
            return BAD;
        }
        if (ferry.isEmpty()) {
            return STATE;
        }
        int all = ferry.setCount() - 1;
        int inEach = all;
        int inAny = 0;
        boolean found = false;
        for (int set = 0; set <= all; set++) {
            if (ferry.weightOfSet(set) == v) {
                inEach &= set;
                inAny |= set;
                found = true;
            }
        }
        if (!found) {
            return answerFinding(NOUGHT);
        }
        lastAsked = all & ~inAny;
        return inEach;
    }

    // ---- 6 two

    public int alike(int i, int j) {
        if (!isPassenger(i) || !isPassenger(j) || i == j) {
            return BAD;
        }
        int first = NONE;
        int ways = 0;
        for (int c = 0; c < DECLARATIONS; c++) {
            int one = Kinds.lifeThen(ferry.kind[i], ferry.life[i], c, ferry.crossing);
            for (int d = 0; d < DECLARATIONS; d++) {
                if (one == Kinds.lifeThen(ferry.kind[j], ferry.life[j], d, ferry.crossing + 1)) {
                    first = ways == 0 ? 10 * c + d : first;
                    ways++;
                }
            }
        }
        if (ways == 0) {
            return NONE;
        }
        lastAsked = first;
        return ways;
    }

    public int duel(int i, int j, int n) {
        if (!isPassenger(i) || !isPassenger(j) || i == j || n < 0 || n > 2) {
            return BAD;
        }
        // Neither one's THINGS, nor the numbers of its CROSSINGS, hang on what the other declares:
        // both do best by making their own THINGS as much as can be.
        int one = mostTogether(ferry.kind[i], ferry.life[i], ferry.crossing, n);
        int other = mostTogether(ferry.kind[j], ferry.life[j], ferry.crossing + 1, n);
        lastAsked = one - other;
        return 1;
    }

    // ---- 7 chances, lots

    public int odds(int i, int r, int p) {
        return answerChances(i, r, p, true);
    }

    public int mid(int i, int r, int p) {
        return answerChances(i, r, p, false);
    }

    public int lots(int n, int seed) {
        if (n < 1 || n > MOST_LOTS || seed < 1 || seed >= LOT_MODULUS) {
            return BAD;
        }
        if (ferry.isEmpty()) {
            return STATE;
        }
        if (!ferry.hasRoomFor(n)) {
            return FULL;
        }
        long lot = seed;
        for (int k = 0; k < n; k++) {
            lot = lot * LOT_FACTOR % LOT_MODULUS;
            ferry.doByLot((int) lot);
        }
        return ferry.onBankOne();
    }

    // ---- 8 what is told

    public int asked() {
        return lastAsked;
    }

    public long upper() {
        return lastUpper;
    }

    public long lower() {
        return lastLower;
    }

    public int count(int what) {
        switch (what) {
            case 0:
                return ferry.size;
            case 1:
                return ferry.crossing;
            case 2:
                return ferry.deeds;
            case 3:
                return ferry.onBankOne();
            case 4:
                return ferry.weightOfSet(ferry.setCount() - 1);
            case 5:
                return ferry.howManyOf(Kinds.BRIDE);
            case 6:
                return ferry.howManyOf(Kinds.LIAR);
            case 7:
                return howManyThere(rows);
            case 8:
                return howManyThere(texts);
            case 9:
                return howManyKept();
            default:
                return BAD;
        }
    }

    public int finding() {
        return lastFinding;
    }

    public int findings(int f) {
        if (f < NOTHING || f > SIZE) {
            return BAD;
        }
        return findingCounts[f];
    }

    public long digest() {
        long h = 17L;
        for (int what = 0; what <= 9; what++) {
            h = 31L * h + count(what);
        }
        for (int i = 0; i < ferry.size; i++) {
            for (int what = 0; what <= 6; what++) {
                h = 31L * h + knownOf(i, what);
            }
        }
        for (Ferry one : kept) {
            h = 31L * h + (one.isEmpty() ? -1 : one.deeds);
        }
        for (Row row : rows) {
            h = row.digestInto(h);
        }
        for (Row text : texts) {
            h = text.digestInto(h);
        }
        return h;
    }

    // ---- what is refused

    private static boolean isRow(int r) {
        return r >= 0 && r < ROWS;
    }

    private static boolean isText(int t) {
        return t >= 0 && t < TEXTS;
    }

    private static boolean isPlaceKept(int k) {
        return k >= 0 && k < PLACES_KEPT;
    }

    private static boolean isDeclaration(int c) {
        return c >= 0 && c < DECLARATIONS;
    }

    private boolean isPassenger(int i) {
        return i >= 0 && i < ferry.size;
    }

    private int answerFinding(int finding) {
        lastFinding = finding;
        findingCounts[finding]++;
        return FINDING;
    }

    private int refusalOfPlace(Row row, int i) {
        if (row.isMissing()) {
            return answerFinding(NOTHING);
        }
        if (!row.hasPlaces(i, 1)) {
            return answerFinding(BEYOND);
        }
        return ACCEPTED;
    }

    /** A ROW has to be there, with as many ints as told, each of them as told. */
    private int refusalOfRow(Row row, int fewest, int most, int low, int high) {
        if (row.isMissing()) {
            return answerFinding(NOTHING);
        }
        if (row.size < fewest || row.size > most) {
            return answerFinding(SIZE);
        }
        for (int k = 0; k < row.size; k++) {
            if (row.places[k] < low || row.places[k] > high) {
                return answerFinding(UNLIKE);
            }
        }
        return ACCEPTED;
    }

    /** A ROW has to be there, of up to 8 pairs of a DECLARATION and a sum of THINGS. */
    private int refusalOfPairs(Row row) {
        if (row.isMissing()) {
            return answerFinding(NOTHING);
        }
        if (row.size > 16 || row.size % 2 != 0) {
            return answerFinding(SIZE);
        }
        for (int k = 0; k < row.size; k++) {
            int most = k % 2 == 0 ? DECLARATIONS - 1 : MOST_TOGETHER;
            if (row.places[k] < 0 || row.places[k] > most) {
                return answerFinding(UNLIKE);
            }
        }
        return ACCEPTED;
    }

    // ---- texts that are ferries

    private static int placeOfFault(Row text) {
        int items = 0;
        int signs = 0;
        for (int place = 0; place < text.size; place++) {
            int sign = text.places[place];
            if (signs == 0 && sign == BLANK) {
                continue;
            }
            if (items == Ferry.MOST || !isSignOfItem(signs, sign)) {
                return place;
            }
            signs++;
            if (signs == ITEM_SIGNS) {
                signs = 0;
                items++;
            }
        }
        return signs > 0 || items == 0 ? text.size : NONE;
    }

    private static boolean isSignOfItem(int place, int sign) {
        if (place == 0) {
            return Kinds.ofLetter(sign) != NONE;
        }
        return sign >= '0' && sign <= (place == ITEM_SIGNS - 1 ? '1' : '9');
    }

    /** Only for a TEXT without a FAULT. */
    private void boardAll(Row text) {
        ferry.clear();
        int place = 0;
        while (place + ITEM_SIGNS <= text.size) {
            if (text.places[place] == BLANK) {
                place++;
            } else {
                boardOne(text, place);
                place += ITEM_SIGNS;
            }
        }
    }

    private void boardOne(Row text, int place) {
        int life = 0;
        for (int k = 1; k <= Life.THINGS; k++) {
            life = 10 * life + text.places[place + k] - '0';
        }
        ferry.board(Kinds.ofLetter(text.places[place]), life, text.places[place + ITEM_SIGNS - 1] - '0');
    }

    // ---- what is known, what is told

    private int knownOf(int i, int what) {
        int kind = ferry.kind[i];
        int life = ferry.life[i];
        switch (what) {
            case 0:
                return kind;
            case 4:
                return ferry.bank[i];
            case 5:
                return Kinds.weightOf(kind, life);
            case 6:
                return Kinds.landings(kind, life, ferry.crossing);
            default:
                return Life.thing(life, what - 1);
        }
    }

    private static int howManyThere(Row[] all) {
        int there = 0;
        for (Row row : all) {
            there += row.isMissing() ? 0 : 1;
        }
        return there;
    }

    private int howManyKept() {
        int there = 0;
        for (Ferry one : kept) {
            there += one.isEmpty() ? 0 : 1;
        }
        return there;
    }

    private void tell(long upper, long lower) {
        long shared = greatestShared(upper, lower);
        if (shared > 0L) {
            lastUpper = upper / shared;
            lastLower = lower / shared;
        }
    }

    private static long greatestShared(long a, long b) {
        // A hundred rounds are more than any two longs need.
        for (int k = 0; k < 100 && b != 0L; k++) {
            long rest = a % b;
            a = b;
            b = rest;
        }
        return a;
    }

    // ---- searches

    /** Tries DECLARATIONS in their order, so that the first that do are left in the path. */
    private static boolean isFound(Search s, int depth, int life, int bank) {
        if (depth >= s.crossings || depth >= s.path.length) {
            return (s.bank == -1 || s.bank == bank) && Life.isAs(life, s.wanted);
        }
        for (int c = 0; c < DECLARATIONS; c++) {
            s.path[depth] = c;
            int then = Kinds.landing(s.kind, life, c, s.number + depth);
            boolean lands = then != Kinds.ROUND;
            if (isFound(s, depth + 1, lands ? then : life, lands ? 1 - bank : bank)) {
                return true;
            }
        }
        return false;
    }

    /** One CROSSING more from each LIFE that can be had behind k CROSSINGS: how many are new. */
    private int livesNewlyFound(int kind, int k) {
        int found = 0;
        for (int life = 0; life < LIVES; life++) {
            if (crossingsTo[life] == NONE || crossingsTo[life] > k) {
                continue;
            }
            for (int c = 0; c < DECLARATIONS; c++) {
                int then = Kinds.lifeThen(kind, life, c, ferry.crossing + k);
                if (crossingsTo[then] == NONE) {
                    crossingsTo[then] = k + 1;
                    found++;
                }
            }
        }
        return found;
    }

    private static int mostTogether(int kind, int life, int number, int turns) {
        if (turns <= 0) {
            return Life.together(life);
        }
        int most = 0;
        for (int c = 0; c < DECLARATIONS; c++) {
            int then = Kinds.lifeThen(kind, life, c, number);
            most = Math.max(most, mostTogether(kind, then, number + 2, turns - 1));
        }
        return most;
    }

    private int kindsThatFit(int i, Row pairs) {
        int bits = 0;
        for (int kind = 0; kind < Kinds.HOW_MANY; kind++) {
            if (fits(kind, ferry.life[i], pairs)) {
                bits |= 1 << kind;
            }
        }
        return bits;
    }

    private boolean fits(int kind, int life, Row pairs) {
        int then = life;
        for (int k = 0; k + 1 < pairs.size; k += 2) {
            then = Kinds.lifeThen(kind, then, pairs.places[k], ferry.crossing + k / 2);
            if (Life.together(then) != pairs.places[k + 1]) {
                return false;
            }
        }
        return true;
    }

    /** How many of the KINDS (bits) at most can't be told apart by what a DECLARATION brings now. */
    private int greatestPart(int bits, int life, int c) {
        Arrays.fill(parts, 0);
        int greatest = 0;
        for (int kind = 0; kind < Kinds.HOW_MANY; kind++) {
            if ((bits >> kind & 1) != 0) {
                int sum = Life.together(Kinds.lifeThen(kind, life, c, ferry.crossing));
                parts[sum]++;
                greatest = Math.max(greatest, parts[sum]);
            }
        }
        return greatest;
    }

    /** Needs the answers for all lesser sets; each PASSENGER by itself is light enough. */
    private int fewestBoatsOf(int set, int load) {
        int fewest = Ferry.MOST + 1;
        int inBoat = set & -set;
        for (int boat = 1; boat <= set; boat++) {
            if (isBoat(boat, inBoat, set, load)) {
                fewest = Math.min(fewest, 1 + fewestBoats[set & ~boat]);
            }
        }
        return fewest;
    }

    private int firstBoat(int all, int load) {
        for (int boat = 1; boat <= all; boat++) {
            if (isBoat(boat, 1, all, load) && fewestBoats[all & ~boat] + 1 == fewestBoats[all]) {
                return boat;
            }
        }
        return NONE;
    }

    private boolean isBoat(int boat, int inBoat, int set, int load) {
        return (boat & inBoat) != 0 && (boat & ~set) == 0 && ferry.weightOfSet(boat) <= load;
    }

    private int answerChances(int i, int r, int p, boolean byBank) {
        if (!isPassenger(i) || !isRow(r) || p < 0 || p > TWELVE) {
            return BAD;
        }
        int refusal = refusalOfRow(rows[r], 1, 6, 0, DECLARATIONS - 1);
        if (refusal != ACCEPTED) {
            return refusal;
        }
        tellChances(i, rows[r], p, byBank);
        return 1;
    }

    /** Goes through all sets of DECLARATIONS that are believed, each with its share of 12 to the size. */
    private void tellChances(int i, Row row, int p, boolean byBank) {
        long all = 1L;
        for (int k = 0; k < row.size; k++) {
            all *= TWELVE;
        }
        long sum = 0L;
        for (int believed = 0; believed < 1 << row.size; believed++) {
            sum += weighedEnd(i, row, p, believed, byBank);
        }
        tell(sum, all);
    }

    private long weighedEnd(int i, Row row, int p, int believed, boolean byBank) {
        int life = ferry.life[i];
        int landed = 0;
        long share = 1L;
        for (int k = 0; k < row.size; k++) {
            if ((believed >> k & 1) == 0) {
                share *= p;
                continue;
            }
            share *= TWELVE - p;
            int then = Kinds.landing(ferry.kind[i], life, row.places[k], ferry.crossing + k);
            if (then != Kinds.ROUND) {
                life = then;
                landed++;
            }
        }
        return share * (byBank ? landed % 2 : Life.together(life));
    }

    /** A row of ints (ROWS) or of bytes (TEXTS), or none. */
    private static final class Row {
        static final int MISSING = -1;
        final int[] places;
        int size = MISSING;

        Row(int most) {
            places = new int[Math.max(0, most)];
        }

        boolean isMissing() {
            return size < 0;
        }

        boolean hasPlaces(int from, int n) {
            return from >= 0 && from <= size && n <= size - from;
        }

        void renew(int n, int filled) {
            if (n >= 0 && n <= places.length) {
                for (int k = 0; k < n; k++) {
                    places[k] = filled;
                }
                size = n;
            }
        }

        long digestInto(long h) {
            long then = 31L * h + size;
            for (int k = 0; k < size; k++) {
                then = 31L * then + places[k];
            }
            return then;
        }
    }

    /** A LIFE is one number: 100 times THING 0, 10 times THING 1 and THING 2. */
    private static final class Life {
        static final int THINGS = 3, MOST = 9;

        private Life() {
        }

        static int worthOf(int thing) {
            return thing == 0 ? 100 : thing == 1 ? 10 : 1;
        }

        static int thing(int life, int thing) {
            return life / worthOf(thing) % 10;
        }

        static int together(int life) {
            return life / 100 + life / 10 % 10 + life % 10;
        }

        static int leastThing(int life) {
            int least = 0;
            for (int k = 1; k < THINGS; k++) {
                if (thing(life, k) < thing(life, least)) {
                    least = k;
                }
            }
            return least;
        }

        /** Is it as three ints tell (-1: as it will)? */
        static boolean isAs(int life, int[] told) {
            for (int k = 0; k < THINGS && k < told.length; k++) {
                if (told[k] != -1 && told[k] != thing(life, k)) {
                    return false;
                }
            }
            return true;
        }
    }

    /** What comes of what is declared, by KINDS. */
    private static final class Kinds {
        static final int PASSENGER = 0, BRIDE = 1, LIAR = 2, WIDOWER = 3, SAILOR = 4, CLERK = 5, HOW_MANY = 6;
        static final int ROUND = -1;

        private Kinds() {
        }

        static int ofLetter(int letter) {
            switch (letter) {
                case 'p':
                    return PASSENGER;
                case 'b':
                    return BRIDE;
                case 'l':
                    return LIAR;
                case 'w':
                    return WIDOWER;
                case 's':
                    return SAILOR;
                case 'c':
                    return CLERK;
                default:
                    return NONE;
            }
        }

        static boolean isOf(int kind, int other) {
            return kind == other || other == PASSENGER
                || kind == SAILOR && other == BRIDE
                || kind == CLERK && other == LIAR;
        }

        /** By how much a THING comes to be more or less in a CROSSING of a number. */
        static int stepOf(int kind, int number) {
            return kind == BRIDE || kind == SAILOR && number % 2 == 0 ? 2 : 1;
        }

        static int thingOf(int kind, int c) {
            if (c == 0) {
                return 0;
            }
            int thing = (c - 1) / 2;
            return kind == WIDOWER ? (thing + 1) % Life.THINGS : thing;
        }

        static int changeOf(int kind, int c, int number) {
            if (c == 0) {
                return 0;
            }
            boolean more = c % 2 == 1;
            boolean goesUp = isOf(kind, LIAR) ? !more : more;
            return goesUp ? stepOf(kind, number) : -stepOf(kind, number);
        }

        /** The LIFE with which one LANDS, or ROUND. */
        static int landing(int kind, int life, int c, int number) {
            if (c == 0) {
                return kind == CLERK ? life : ROUND;
            }
            int thing = thingOf(kind, c);
            int change = changeOf(kind, c, number);
            int then = Life.thing(life, thing) + change;
            if (then < 0 || then > Life.MOST) {
                return ROUND;
            }
            return life + change * Life.worthOf(thing);
        }

        /** The LIFE behind a CROSSING, LANDED or not. */
        static int lifeThen(int kind, int life, int c, int number) {
            int then = landing(kind, life, c, number);
            return then == ROUND ? life : then;
        }

        static int landings(int kind, int life, int number) {
            int bits = 0;
            for (int c = 0; c < DECLARATIONS; c++) {
                if (landing(kind, life, c, number) != ROUND) {
                    bits |= 1 << c;
                }
            }
            return bits;
        }

        static int weightOf(int kind, int life) {
            return Life.together(life) + (isOf(kind, BRIDE) ? 1 : 0);
        }
    }

    /** PASSENGERS, the number of the next CROSSING, and DEEDS with what was ahead of each. */
    private static final class Ferry {
        static final int MOST = 6, MOST_DEEDS = 40;
        final int[] kind = new int[MOST];
        final int[] life = new int[MOST];
        final int[] bank = new int[MOST];
        final int[] deedBy = new int[MOST_DEEDS];
        final int[] lifeAhead = new int[MOST_DEEDS];
        final int[] bankAhead = new int[MOST_DEEDS];
        final int[] crossingAhead = new int[MOST_DEEDS];
        int size = 0;
        int crossing = 0;
        int deeds = 0;

        boolean isEmpty() {
            return size == 0;
        }

        void clear() {
            size = 0;
            crossing = 0;
            deeds = 0;
        }

        void board(int ofKind, int withLife, int onBank) {
            if (size < MOST) {
                kind[size] = ofKind;
                life[size] = withLife;
                bank[size] = onBank;
                size++;
            }
        }

        void takeFrom(Ferry other) {
            size = other.size;
            crossing = other.crossing;
            deeds = other.deeds;
            System.arraycopy(other.kind, 0, kind, 0, MOST);
            System.arraycopy(other.life, 0, life, 0, MOST);
            System.arraycopy(other.bank, 0, bank, 0, MOST);
            System.arraycopy(other.deedBy, 0, deedBy, 0, MOST_DEEDS);
            System.arraycopy(other.lifeAhead, 0, lifeAhead, 0, MOST_DEEDS);
            System.arraycopy(other.bankAhead, 0, bankAhead, 0, MOST_DEEDS);
            System.arraycopy(other.crossingAhead, 0, crossingAhead, 0, MOST_DEEDS);
        }

        boolean hasRoomFor(int n) {
            return n <= MOST_DEEDS - deeds;
        }

        private void noteDeed(int i) {
            if (deeds < MOST_DEEDS) {
                deedBy[deeds] = i;
                lifeAhead[deeds] = life[i];
                bankAhead[deeds] = bank[i];
                crossingAhead[deeds] = crossing;
                deeds++;
            }
        }

        /** Whether it LANDS. */
        boolean takeOver(int i, int c) {
            noteDeed(i);
            int then = Kinds.landing(kind[i], life[i], c, crossing);
            crossing++;
            if (then == Kinds.ROUND) {
                return false;
            }
            life[i] = then;
            bank[i] = 1 - bank[i];
            return true;
        }

        void setByHand(int i, int thing, int v) {
            noteDeed(i);
            life[i] += (v - Life.thing(life[i], thing)) * Life.worthOf(thing);
        }

        void doByLot(int lot) {
            if (size == 0) {
                return;
            }
            int i = lot % size;
            if (lot / 8 % 8 == 7) {
                setByHand(i, lot / 64 % Life.THINGS, lot / 256 % 10);
            } else {
                takeOver(i, lot / 8 % DECLARATIONS);
            }
        }

        int undoFrom(int n) {
            int undone = deeds - n;
            for (int k = deeds - 1; k >= n; k--) {
                int i = deedBy[k];
                life[i] = lifeAhead[k];
                bank[i] = bankAhead[k];
                crossing = crossingAhead[k];
            }
            deeds = n;
            return undone;
        }

        int onBankOne() {
            int bits = 0;
            for (int i = 0; i < size; i++) {
                bits |= bank[i] << i;
            }
            return bits;
        }

        int othersOnBankOf(int i) {
            int others = 0;
            for (int j = 0; j < size; j++) {
                others += j != i && bank[j] == bank[i] ? 1 : 0;
            }
            return others;
        }

        int howManyOf(int other) {
            int found = 0;
            for (int i = 0; i < size; i++) {
                found += Kinds.isOf(kind[i], other) ? 1 : 0;
            }
            return found;
        }

        int setCount() {
            return 1 << size;
        }

        int weightOfSet(int set) {
            int weight = 0;
            for (int i = 0; i < size; i++) {
                if ((set >> i & 1) != 0) {
                    weight += Kinds.weightOf(kind[i], life[i]);
                }
            }
            return weight;
        }

        int heaviest() {
            int most = 0;
            for (int i = 0; i < size; i++) {
                most = Math.max(most, Kinds.weightOf(kind[i], life[i]));
            }
            return most;
        }
    }

    /** What isFound() looks for, and the DECLARATIONS that it is trying. */
    private static final class Search {
        final int[] path = new int[MOST_CROSSINGS];
        final int[] wanted = new int[Life.THINGS];
        int kind = 0;
        int number = 0;
        int crossings = 0;
        int bank = -1;
    }
}
