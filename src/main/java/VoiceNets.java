import java.util.Arrays;

/** Nets for voices, as ../shared/DOC.md promises it; words in capitals there are told under its "Terms". */
public final class VoiceNets {
    public static final int BAD = -1, FULL = -2, NONE = -3, STATE = -4;

    private static final int NO_ROW = -9;
    private static final int NOTHING = -11;
    private static final int OUTSIDE = -12;
    private static final int OTHER_SORT = -13;
    private static final int SIZE_BELOW_0 = -14;
    private static final int PARTED_BY_0 = -15;

    private static final int VOICE = 0;
    private static final int[] KIND_ABOVE = {0, 0, 0, 2, 0, 4};
    private static final int KEEP = 0;
    private static final int FREE = 1;
    private static final int SALT = 2;
    private static final int FLOOD = 1;
    private static final int EBB = 2;

    private static final int MOST_VOICES = 6;
    private static final int MOST_TURNS = 16;
    private static final int LAST_PLACE = 15;
    private static final int MOST_MESH = 9;
    private static final int MOST_REPORTS = 6;
    private static final int MOST_PLAN = 4;

    private static final int SHEETS = 4;
    private static final int SHEET_ITEMS = 40;
    private static final int MOST_GO = 20;
    private static final int BYTES = 0;
    private static final int SHORTS = 1;
    private static final int BOOLEANS = 4;
    private static final int MISSING = -1;

    private static final int SHELVES = 4;
    private static final int HOLDS_VOICE = 0;
    private static final int HOLDS_ROW = 1;
    private static final int HOLDS_NOTHING = 2;
    private static final int AS_ROW = 10;

    private final Sea sea;
    private final Sea kept;
    private boolean somethingKept;
    private final RuleText text;
    private final Lookout lookout;
    private final Song song;
    private final int[] sheetSort;
    private final int[] sheetSize;
    private final long[][] sheetItems;
    private final int[] shelfHolds;
    private final int[] shelfOf;
    private final int[] shelfSize;

    public VoiceNets() {
        Voice[] kinds = {new Voice(), new Child(), new Quarrel(), new Prayer(), new Foghorn(), new Gull()};
        sea = new Sea(kinds);
        kept = new Sea(kinds);
        somethingKept = false;
        text = new RuleText();
        lookout = new Lookout(sea);
        song = new Song();
        sheetSort = new int[SHEETS];
        Arrays.fill(sheetSort, MISSING);
        sheetSize = new int[SHEETS];
        sheetItems = new long[SHEETS][SHEET_ITEMS];
        shelfHolds = new int[SHELVES];
        Arrays.fill(shelfHolds, HOLDS_NOTHING);
        shelfOf = new int[SHELVES];
        shelfSize = new int[SHELVES];
    }

    // ---- the sea, voices

    public int voice(int kind, int pitch, int strength, int place) {
        boolean asTold = isKind(kind) && isPitch(pitch) && isStrength(strength) && isPlace(place);
        return asTold ? sea.addVoice(kind, pitch, strength, place) : BAD;
    }

    public int voiceOf(int v, int what) {
        if (!sea.has(v)) {
            return BAD;
        }
        switch (what) {
            case 0: return sea.kind[v];
            case 1: return sea.pitch[v];
            case 2: return sea.strength[v];
            case 3: return sea.place[v];
            case 4: return sea.isCaught(v) ? 1 : 0;
            case 5: return sea.driftOf(v);
            case 6: return sea.thing(v).price(sea.strength[v]);
            case 7: return sea.isBursting(v) ? 1 : 0;
            case 8: return sea.willOf(v);
            default: return BAD;
        }
    }

    public int change(int v, int what, int x) {
        if (!sea.has(v)) {
            return BAD;
        }
        switch (what) {
            case 1: return isPitch(x) ? exchange(sea.pitch, v, x) : BAD;
            case 2: return isStrength(x) ? exchange(sea.strength, v, x) : BAD;
            case 3: return isPlace(x) ? exchange(sea.place, v, x) : BAD;
            case 4: return isWithin(x, 0, 1) ? changeCaught(v, x) : BAD;
            default: return BAD;
        }
    }

    private int changeCaught(int v, int x) {
        int was = sea.isCaught(v) ? 1 : 0;
        sea.markCaught(v, x == 1);
        return was;
    }

    public int remake(int v, int kind) {
        return sea.has(v) && isKind(kind) ? exchange(sea.kind, v, kind) : BAD;
    }

    public int tide(int turn, int x) {
        return isTideTurn(turn) && isWithin(x, 0, 2) ? exchange(sea.tide, turn, x) : BAD;
    }

    public int tideOf(int turn) {
        return isTideTurn(turn) ? sea.tide[turn] : BAD;
    }

    public int set(int what, int x) {
        switch (what) {
            case 0: return isWithin(x, 1, MOST_TURNS) ? changeEnd(x) : BAD;
            case 1: return isWithin(x, 0, MOST_MESH) ? changeMesh(x) : BAD;
            default: return BAD;
        }
    }

    private int changeEnd(int x) {
        if (x < sea.turn) {
            return STATE;
        }
        int was = sea.end;
        sea.end = x;
        return was;
    }

    private int changeMesh(int x) {
        int was = sea.mesh;
        sea.mesh = x;
        return was;
    }

    public int anew() {
        int was = sea.turn;
        sea.turn = 0;
        sea.score = 0;
        sea.caught = 0;
        return was;
    }

    public int state(int what) {
        switch (what) {
            case 0: return sea.turn;
            case 1: return sea.end;
            case 2: return sea.score;
            case 3: return sea.isOver() ? 1 : 0;
            case 4: return sea.caught;
            case 5: return sea.mesh;
            default: return BAD;
        }
    }

    // ---- the rules

    public int feed(long eight, int n) {
        return isWithin(n, 1, 8) ? text.take(eight, n) : BAD;
    }

    public int rules() {
        int answer = text.readInto(sea.rules);
        text.useUp();
        return answer;
    }

    // ---- turns

    public int turn() {
        return sea.isOver() ? STATE : sea.goBy(sea.leastAct());
    }

    public int on(int n) {
        return isWithin(n, 0, MOST_TURNS) ? lookout.worthOfRest(n) : BAD;
    }

    public int when(int v) {
        return sea.has(v) ? lookout.turnOfCatch(v) : BAD;
    }

    public int meshFor() {
        return lookout.bestMesh();
    }

    public int placeFor(int v) {
        return sea.has(v) ? lookout.bestPlace(v) : BAD;
    }

    // ---- quarrels

    public int quarrels() {
        return lookout.quarrellingPairs();
    }

    public int apart(int what) {
        if (what != -1 && !sea.has(what)) {
            return BAD;
        }
        int fewest = lookout.putApart();
        return what == -1 ? fewest : lookout.netOf[what];
    }

    public int choir(int what) {
        if (!isWithin(what, 0, 1)) {
            return BAD;
        }
        int loudest = lookout.loudestChoir();
        return what == 0 ? loudest : lookout.strengthOf(loudest);
    }

    // ---- plans

    public int best(int n) {
        if (!isPlan(n)) {
            return BAD;
        }
        lookout.search(n, 0);
        return lookout.most;
    }

    public int ith(int n, int i) {
        if (!isPlan(n) || !isWithin(i, 0, MOST_PLAN - 1)) {
            return BAD;
        }
        if (i >= lookout.planLength(n)) {
            return NONE;
        }
        lookout.search(n, 0);
        return lookout.first[i];
    }

    public int ways(int n) {
        if (!isPlan(n)) {
            return BAD;
        }
        lookout.search(n, 0);
        return lookout.alike;
    }

    public int haul(int n, int set) {
        if (!isPlan(n) || !sea.hasAll(set)) {
            return BAD;
        }
        lookout.search(n, set);
        return lookout.fewest;
    }

    public int bars(int n, int set) {
        if (!isPlan(n) || !sea.hasAll(set)) {
            return BAD;
        }
        lookout.search(n, set);
        return leastOf(set & ~lookout.everCaught);
    }

    // ---- a game, strange voices, lots

    public int game(int n) {
        if (!isGame(n)) {
            return BAD;
        }
        return lookout.valueOfGame(n);
    }

    public int play(int n) {
        if (!isGame(n)) {
            return BAD;
        }
        if (sea.isOver()) {
            return NONE;
        }
        lookout.valueOfGame(n);
        return lookout.opening;
    }

    public int report(int k, int least, int most) {
        boolean asTold = isWithin(k, 0, 15) && isPlace(least) && isPlace(most) && least <= most;
        return asTold ? sea.addReport(k, least, most) : BAD;
    }

    public int forget() {
        int was = sea.reports;
        sea.reports = 0;
        return was;
    }

    public int span(int what) {
        if (!isWithin(what, 0, 2)) {
            return BAD;
        }
        if (what == 0) {
            return lookout.howManyFit();
        }
        int stranger = lookout.leastThatFits();
        if (stranger == NONE) {
            return NONE;
        }
        return what == 1 ? Lookout.kindOfStranger(stranger) : Lookout.placeOfStranger(stranger);
    }

    public int liar() {
        return lookout.leastLiar();
    }

    public int seed(int v) {
        int was = sea.z;
        sea.z = v;
        return was;
    }

    public int lot() {
        return sea.isOver() ? STATE : sea.goBy(sea.drawLot());
    }

    public int times(int n, int v) {
        return isWithin(n, 1, 40) && isWithin(v, 0, 999) ? lookout.timesWorth(n, v) : BAD;
    }

    // ---- rows

    public int prove(int n) {
        if (!isPlan(n)) {
            return BAD;
        }
        lookout.search(n, 0);
        return lookout.writeRows();
    }

    public int row(int k, int what) {
        return lookout.hasRow(k) && isWithin(what, 0, 2) ? lookout.rows[k][what] : NO_ROW;
    }

    public int alterRow(int k, int what, int v) {
        return lookout.hasRow(k) && isWithin(what, 0, 2) ? exchange(lookout.rows[k], what, v) : NO_ROW;
    }

    public int judge() {
        return lookout.firstWrongRow();
    }

    // ---- the host

    public int sheet(int sheet, int sort, int n) {
        if (!isSheet(sheet) || !isWithin(sort, MISSING, BOOLEANS)) {
            return BAD;
        }
        int size = sort == MISSING ? 0 : n;
        if (size > SHEET_ITEMS) {
            return BAD;
        }
        if (size < 0) {
            return SIZE_BELOW_0;
        }
        sheetSort[sheet] = sort;
        sheetSize[sheet] = size;
        Arrays.fill(sheetItems[sheet], 0L);
        return 1;
    }

    public int write(int sheet, int i, int v) {
        if (!isSheet(sheet)) {
            return BAD;
        }
        if (sheetSort[sheet] == MISSING) {
            return NOTHING;
        }
        if (!hasItem(sheet, i)) {
            return OUTSIDE;
        }
        sheetItems[sheet][i] = narrowed(sheetSort[sheet], v);
        return 1;
    }

    private static long narrowed(int sort, int v) {
        switch (sort) {
            case BYTES: return (byte) v;
            case SHORTS: return (short) v;
            case BOOLEANS: return v != 0 ? 1 : 0;
            default: return v;
        }
    }

    public int item(int sheet, int sort, int i) {
        if (!isSheet(sheet) || !isSort(sort)) {
            return BAD;
        }
        int refusal = refusalAs(sheet, sort);
        if (refusal != 0) {
            return refusal;
        }
        return hasItem(sheet, i) ? (int) sheetItems[sheet][i] : OUTSIDE;
    }

    public int goAll(int sheet, int i, int n) {
        int refusal = refusalOfActs(sheet, n);
        if (refusal != 0) {
            return refusal;
        }
        int worth = 0;
        for (int k = 0; k < n; k++) {
            // i + k can't wrap behind the first item: an i that is outside ends the loop at k = 0.
            if (!hasItem(sheet, i + k)) {
                return OUTSIDE;
            }
            int act = (int) sheetItems[sheet][i + k];
            if (sea.isAct(act)) {
                worth += sea.goBy(act);
            }
        }
        return worth;
    }

    public int wouldBe(int sheet, int i, int n) {
        int refusal = refusalOfActs(sheet, n);
        if (refusal != 0) {
            return refusal;
        }
        lookout.remember();
        int worth = worthOfItems(sheet, i, n);
        lookout.goBack();
        return worth;
    }

    private int worthOfItems(int sheet, int i, int n) {
        int worth = 0;
        for (int k = 0; k < n; k++) {
            if (!hasItem(sheet, i + k)) {
                return OUTSIDE;
            }
            int act = (int) sheetItems[sheet][i + k];
            if (!sea.isAct(act) || sea.isOver()) {
                return STATE;
            }
            worth += sea.goBy(act);
        }
        return worth;
    }

    /** What is refused of a SHEET whose items are to be ACTS, ahead of the items themselves; 0: nothing. */
    private int refusalOfActs(int sheet, int n) {
        return isSheet(sheet) && isWithin(n, 0, MOST_GO) ? refusalAs(sheet, BYTES) : BAD;
    }

    /** What the host refuses of a SHEET that is taken for a sort; 0: nothing. */
    private int refusalAs(int sheet, int sort) {
        if (sheetSort[sheet] == MISSING) {
            return NOTHING;
        }
        return sheetSort[sheet] == sort ? 0 : OTHER_SORT;
    }

    private boolean hasItem(int sheet, int i) {
        return isWithin(i, 0, sheetSize[sheet] - 1);
    }

    public int shelf(int shelf, int what, int n) {
        if (!isShelf(shelf)) {
            return BAD;
        }
        switch (what) {
            case HOLDS_VOICE: return sea.has(n) ? putOn(shelf, HOLDS_VOICE, n, 0) : BAD;
            case HOLDS_ROW: return isSheet(n) ? putRowOn(shelf, n) : BAD;
            case HOLDS_NOTHING: return putOn(shelf, HOLDS_NOTHING, 0, 0);
            default: return BAD;
        }
    }

    /** The row's sort and size are taken along: a SHELF keeps its row, when the SHEET becomes another one. */
    private int putRowOn(int shelf, int sheet) {
        if (sheetSort[sheet] == MISSING) {
            return putOn(shelf, HOLDS_NOTHING, 0, 0);
        }
        return putOn(shelf, HOLDS_ROW, sheetSort[sheet], sheetSize[sheet]);
    }

    private int putOn(int shelf, int holds, int of, int size) {
        shelfHolds[shelf] = holds;
        shelfOf[shelf] = of;
        shelfSize[shelf] = size;
        return 1;
    }

    public int taken(int shelf, int as) {
        boolean asVoice = isWithin(as, 0, 5);
        if (!isShelf(shelf) || !asVoice && !isSort(as - AS_ROW)) {
            return BAD;
        }
        int of = shelfOf[shelf];
        if (holdsVoice(shelf)) {
            return asVoice && isUnder(sea.kind[of], as) ? of : OTHER_SORT;
        }
        if (shelfHolds[shelf] == HOLDS_ROW) {
            return of == as - AS_ROW ? shelfSize[shelf] : OTHER_SORT;
        }
        return NOTHING;
    }

    /** A VOICE that was put there may be gone by again(). */
    private boolean holdsVoice(int shelf) {
        return shelfHolds[shelf] == HOLDS_VOICE && sea.has(shelfOf[shelf]);
    }

    public int act(int shelf, int act, int x) {
        if (!isShelf(shelf) || !isWithin(act, 0, 3) || !holdsVoice(shelf)) {
            song.begin(0, 0);
            return 0;
        }
        int v = shelfOf[shelf];
        song.begin(v, sea.strength[v]);
        int answer = 0;
        Voice thing = sea.thing(v);
        switch (act) {
            case 0: answer = thing.hums(song, x); break;
            case 1: answer = thing.calls(song, x); break;
            case 2: answer = thing.parts(song, x); break;
            default: answer = thing.rings(song, x); break;
        }
        return song.broken ? PARTED_BY_0 : answer;
    }

    public int trace(int i) {
        return isWithin(i, 0, song.count - 1) ? song.bodies[i] : NONE;
    }

    public int many(int what) {
        switch (what) {
            case 0: return sea.count;
            case 1: return sea.rules.count;
            case 2: return Integer.bitCount(sea.caught);
            case 3: return sea.reports;
            case 4: return lookout.rowCount;
            case 5: return text.size;
            case 6: return song.count;
            default: return BAD;
        }
    }

    // ---- kept

    public int keep() {
        kept.becomeLike(sea);
        somethingKept = true;
        return 1;
    }

    public int again() {
        if (!somethingKept) {
            return NONE;
        }
        sea.becomeLike(kept);
        return sea.count;
    }

    // ---- numbers as told

    private static boolean isWithin(int x, int least, int most) {
        return x >= least && x <= most;
    }

    private static boolean isKind(int x) {
        return isWithin(x, 1, 5);
    }

    private static boolean isPitch(int x) {
        return isWithin(x, 0, 9);
    }

    private static boolean isStrength(int x) {
        return isWithin(x, 1, 9);
    }

    private static boolean isPlace(int x) {
        return isWithin(x, 0, LAST_PLACE);
    }

    private static boolean isTideTurn(int x) {
        return isWithin(x, 0, MOST_TURNS - 1);
    }

    private static boolean isPlan(int n) {
        return isWithin(n, 0, MOST_PLAN);
    }

    private static boolean isGame(int n) {
        return isWithin(n, 1, MOST_PLAN);
    }

    private static boolean isSheet(int x) {
        return isWithin(x, 0, SHEETS - 1);
    }

    private static boolean isSort(int x) {
        return isWithin(x, BYTES, BOOLEANS);
    }

    private static boolean isShelf(int x) {
        return isWithin(x, 0, SHELVES - 1);
    }

    private static int exchange(int[] row, int i, int x) {
        if (i < 0 || i >= row.length) {
            return BAD;
        }
        int was = row[i];
        row[i] = x;
        return was;
    }

    /** The least number in a set of VOICES or REPORTS; NONE, if it is empty. */
    private static int leastOf(int set) {
        for (int i = 0; i < MOST_VOICES; i++) {
            if ((set >> i & 1) == 1) {
                return i;
            }
        }
        return NONE;
    }

    /** Whether a KIND is another one or under it; no KIND is more than two under voice. */
    private static boolean isUnder(int kind, int above) {
        if (kind == above || above == VOICE) {
            return true;
        }
        return kind >= 0 && kind < KIND_ABOVE.length && KIND_ABOVE[kind] == above;
    }

    /** A KIND, as a thing with ACTS; number and STRENGTH of the VOICE come with the call, so that one thing does for all. */
    private static class Voice {
        int drifts(int strength, int turn) {
            return 1;
        }

        int price(int strength) {
            return strength;
        }

        boolean bursts(int strength) {
            return false;
        }

        int hums(Song song, int x) {
            song.began(10);
            return x * 3 - song.number;
        }

        int calls(Song song, int x) {
            song.began(11);
            return hums(song, x) + song.strength;
        }

        int parts(Song song, int x) {
            song.began(12);
            int by = song.number - song.strength;
            if (by == 0) {
                song.broken = true;
                return 0;
            }
            return x / by;
        }

        int rings(Song song, int x) {
            song.began(13);
            return calls(song, x) ^ parts(song, x);
        }
    }

    private static final class Child extends Voice {
        int drifts(int strength, int turn) {
            return 2 * super.drifts(strength, turn);
        }

        int price(int strength) {
            return 2 * super.price(strength);
        }

        int hums(Song song, int x) {
            song.began(20);
            return super.hums(song, x) + 7;
        }
    }

    private static class Quarrel extends Voice {
        int drifts(int strength, int turn) {
            return super.drifts(strength, turn) + (strength > 5 ? 1 : 0);
        }

        int price(int strength) {
            return Math.max(0, super.price(strength) - 2);
        }

        int calls(Song song, int x) {
            song.began(30);
            return 0 - super.calls(song, x);
        }
    }

    private static final class Prayer extends Quarrel {
        int drifts(int strength, int turn) {
            return (turn & 1) == 1 ? 0 : super.drifts(strength, turn);
        }

        int price(int strength) {
            return super.price(strength) + 5;
        }

        int hums(Song song, int x) {
            song.began(50);
            return super.hums(song, x - 1);
        }

        int rings(Song song, int x) {
            song.began(51);
            return super.rings(song, x) + calls(song, song.number);
        }
    }

    private static class Foghorn extends Voice {
        int drifts(int strength, int turn) {
            return 0;
        }

        int price(int strength) {
            return 1;
        }

        boolean bursts(int strength) {
            return strength >= 8;
        }

        int parts(Song song, int x) {
            song.began(40);
            return super.parts(song, x) * song.strength;
        }
    }

    private static final class Gull extends Foghorn {
        int drifts(int strength, int turn) {
            return super.drifts(strength, turn) + 2;
        }

        int price(int strength) {
            return super.price(strength) - 1;
        }

        boolean bursts(int strength) {
            return false;
        }

        int calls(Song song, int x) {
            song.began(60);
            return super.calls(song, x) ^ 9;
        }

        int parts(Song song, int x) {
            song.began(61);
            return super.parts(song, x) + hums(song, song.strength);
        }
    }

    /** One act(): for whom it is, and THE TRACE of it. */
    private static final class Song {
        int number;
        int strength;
        boolean broken;
        int count;
        final int[] bodies = new int[30];

        void begin(int n, int a) {
            number = n;
            strength = a;
            broken = false;
            count = 0;
        }

        /** Behind a parting by 0 no body runs any more, though the bodies above it still come back. */
        void began(int body) {
            if (!broken && count < bodies.length) {
                bodies[count] = body;
                count++;
            }
        }
    }

    /** THE RULES; a condition is code with its signs behind what they join, so that it needs no tree. */
    private static final class Rules {
        static final int MOST = 8;
        static final int FACT = 10000;
        static final int FACTS = 5;
        static final int LESS = 10010;
        static final int EQUAL = 10011;
        static final int MORE = 10012;
        static final int NOT = 10020;
        static final int AND = 10021;
        static final int OR = 10022;

        int count;
        int codeSize;
        final int[] kind = new int[MOST];
        final int[] deed = new int[MOST];
        final int[] codeFrom = new int[MOST];
        final int[] codeTo = new int[MOST];
        final int[] code = new int[RuleText.MOST_BYTES];

        void clear() {
            count = 0;
            codeSize = 0;
        }

        void becomeLike(Rules other) {
            count = other.count;
            codeSize = other.codeSize;
            System.arraycopy(other.kind, 0, kind, 0, MOST);
            System.arraycopy(other.deed, 0, deed, 0, MOST);
            System.arraycopy(other.codeFrom, 0, codeFrom, 0, MOST);
            System.arraycopy(other.codeTo, 0, codeTo, 0, MOST);
            System.arraycopy(other.code, 0, code, 0, other.codeSize);
        }

        void addCode(int c) {
            if (codeSize < code.length) {
                code[codeSize] = c;
                codeSize++;
            }
        }

        /** The code that came from a place on is the RULE's condition. */
        void addRule(int ofKind, int toDo, int from) {
            if (count < MOST) {
                kind[count] = ofKind;
                deed[count] = toDo;
                codeFrom[count] = from;
                codeTo[count] = codeSize;
                count++;
            }
        }

        int deedFor(int ofKind, int[] facts) {
            for (int r = 0; r < count; r++) {
                if (isUnder(ofKind, kind[r]) && holds(r, facts)) {
                    return deed[r];
                }
            }
            return KEEP;
        }

        /** Truths stand as bits, the latest lowest: three open "(" need nine at most. */
        private boolean holds(int r, int[] facts) {
            int truths = 1;
            int left = 0;
            int right = 0;
            for (int i = codeFrom[r]; i < codeTo[r]; i++) {
                int c = code[i];
                switch (c) {
                    case LESS: truths = truths << 1 | (left < right ? 1 : 0); break;
                    case EQUAL: truths = truths << 1 | (left == right ? 1 : 0); break;
                    case MORE: truths = truths << 1 | (left > right ? 1 : 0); break;
                    case NOT: truths ^= 1; break;
                    case AND: truths = (truths >> 1) & (truths | ~1); break;
                    case OR: truths = (truths >> 1) | (truths & 1); break;
                    default:
                        int fact = c - FACT;
                        left = right;
                        right = fact >= 0 && fact < facts.length ? facts[fact] : c;
                        break;
                }
            }
            return (truths & 1) == 1;
        }
    }

    /** THE TAPE, and how it is read; a token is a NUMBER's own worth or one of the numbers from 10000 on. */
    private static final class RuleText {
        static final int MOST_BYTES = 200;
        static final int MOST_OPEN = 3;
        static final int KIND_WORD = 10030;
        static final int DEED_WORD = 10040;
        static final int IF = 10050;
        static final int SEMICOLON = 10051;
        static final int OPEN = 10052;
        static final int CLOSE = 10053;
        static final int END = 10054;
        static final int WRONG = 10055;
        static final int BLANK = 0;
        static final int LETTER = 1;
        static final int DIGIT = 2;
        static final int OTHER = 3;

        int size;
        private final int[] tape = new int[MOST_BYTES];
        private int tokens;
        private final int[] token = new int[MOST_BYTES + 1];
        private final int[] tokenAt = new int[MOST_BYTES + 1];
        private int next;
        private final Rules draft = new Rules();

        int take(long eight, int n) {
            if (n < 0 || size + n > MOST_BYTES) {
                return FULL;
            }
            for (int i = 0; i < n; i++) {
                tape[size] = (int) (eight >>> 8 * i) & 255;
                size++;
            }
            return size;
        }

        void useUp() {
            size = 0;
        }

        int readInto(Rules rules) {
            splitUp();
            next = 0;
            draft.clear();
            // One round more than there may be RULES: the ninth is refused where it begins.
            for (int r = 0; r <= Rules.MOST && current() != END; r++) {
                if (!readRule()) {
                    return -100 - (next < tokens ? tokenAt[next] : size);
                }
            }
            rules.becomeLike(draft);
            return rules.count;
        }

        private void splitUp() {
            tokens = 0;
            for (int i = 0; i < size; i++) {
                int sort = sortOf(tape[i]);
                boolean goesOn = sort != OTHER && i > 0 && sortOf(tape[i - 1]) == sort;
                if (sort != BLANK && !goesOn) {
                    addToken(tokenFrom(i, sort), i);
                }
            }
            addToken(END, size);
        }

        private void addToken(int what, int at) {
            if (tokens < token.length) {
                token[tokens] = what;
                tokenAt[tokens] = at;
                tokens++;
            }
        }

        private static int sortOf(int c) {
            if (c == ' ') {
                return BLANK;
            }
            if (c >= 'a' && c <= 'z') {
                return LETTER;
            }
            return c >= '0' && c <= '9' ? DIGIT : OTHER;
        }

        private int tokenFrom(int from, int sort) {
            int to = from + 1;
            while (to < size && sortOf(tape[to]) == sort) {
                to++;
            }
            switch (sort) {
                case LETTER: return wordOf(from, to);
                case DIGIT: return numberOf(from, to);
                default: return signOf(tape[from]);
            }
        }

        private int numberOf(int from, int to) {
            if (to - from > 4) {
                return WRONG;
            }
            int number = 0;
            for (int i = from; i < to; i++) {
                number = number * 10 + tape[i] - '0';
            }
            return number;
        }

        private static int signOf(int c) {
            switch (c) {
                case '<': return Rules.LESS;
                case '=': return Rules.EQUAL;
                case '>': return Rules.MORE;
                case ';': return SEMICOLON;
                case '(': return OPEN;
                case ')': return CLOSE;
                default: return WRONG;
            }
        }

        private int wordOf(int from, int to) {
            int kind = kindOf(from, to);
            if (kind >= 0) {
                return KIND_WORD + kind;
            }
            int fact = factOf(from, to);
            if (fact >= 0) {
                return Rules.FACT + fact;
            }
            if (reads(from, to, "keep")) return DEED_WORD + KEEP;
            if (reads(from, to, "free")) return DEED_WORD + FREE;
            if (reads(from, to, "salt")) return DEED_WORD + SALT;
            if (reads(from, to, "if")) return IF;
            if (reads(from, to, "not")) return Rules.NOT;
            if (reads(from, to, "and")) return Rules.AND;
            if (reads(from, to, "or")) return Rules.OR;
            return WRONG;
        }

        private int kindOf(int from, int to) {
            if (reads(from, to, "voice")) return 0;
            if (reads(from, to, "child")) return 1;
            if (reads(from, to, "quarrel")) return 2;
            if (reads(from, to, "prayer")) return 3;
            if (reads(from, to, "foghorn")) return 4;
            if (reads(from, to, "gull")) return 5;
            return -1;
        }

        private int factOf(int from, int to) {
            if (reads(from, to, "turn")) return 0;
            if (reads(from, to, "pitch")) return 1;
            if (reads(from, to, "strength")) return 2;
            if (reads(from, to, "place")) return 3;
            if (reads(from, to, "number")) return 4;
            return -1;
        }

        private boolean reads(int from, int to, String word) {
            if (to - from != word.length()) {
                return false;
            }
            for (int i = from; i < to; i++) {
                if (tape[i] != word.charAt(i - from)) {
                    return false;
                }
            }
            return true;
        }

        /** Each reading that answers false leaves next at the token that can't stand there. */
        private boolean readRule() {
            int kind = current() - KIND_WORD;
            if (draft.count >= Rules.MOST || !isWithin(kind, 0, 5)) {
                return false;
            }
            next++;
            int from = draft.codeSize;
            if (goPast(IF) && !readCondition(0)) {
                return false;
            }
            int deed = current() - DEED_WORD;
            if (!isWithin(deed, KEEP, SALT)) {
                return false;
            }
            next++;
            if (!goPast(SEMICOLON)) {
                return false;
            }
            draft.addRule(kind, deed, from);
            return true;
        }

        private boolean readCondition(int open) {
            if (!readAll(open)) {
                return false;
            }
            for (int i = next; i < tokens && goPast(Rules.OR); i++) {
                if (!readAll(open)) {
                    return false;
                }
                draft.addCode(Rules.OR);
            }
            return true;
        }

        private boolean readAll(int open) {
            if (!readOne(open)) {
                return false;
            }
            for (int i = next; i < tokens && goPast(Rules.AND); i++) {
                if (!readOne(open)) {
                    return false;
                }
                draft.addCode(Rules.AND);
            }
            return true;
        }

        private boolean readOne(int open) {
            boolean turned = false;
            for (int i = next; i < tokens && goPast(Rules.NOT); i++) {
                turned = !turned;
            }
            if (current() != OPEN) {
                if (!readComparison()) {
                    return false;
                }
            } else if (open >= MOST_OPEN) {
                return false;
            } else {
                next++;
                if (!readCondition(open + 1) || !goPast(CLOSE)) {
                    return false;
                }
            }
            if (turned) {
                draft.addCode(Rules.NOT);
            }
            return true;
        }

        private boolean readComparison() {
            int left = current();
            if (!isValue(left)) {
                return false;
            }
            next++;
            int sign = current();
            if (!isWithin(sign, Rules.LESS, Rules.MORE)) {
                return false;
            }
            next++;
            int right = current();
            if (!isValue(right)) {
                return false;
            }
            next++;
            draft.addCode(left);
            draft.addCode(right);
            draft.addCode(sign);
            return true;
        }

        private static boolean isValue(int what) {
            return what >= 0 && what < Rules.FACT + Rules.FACTS;
        }

        private boolean goPast(int what) {
            if (current() != what) {
                return false;
            }
            next++;
            return true;
        }

        /** Nothing reads past END, so next stays on a token. */
        private int current() {
            return next < tokens ? token[next] : END;
        }
    }

    /** What is kept and comes again: TURNS, VOICES, THE RULES, REPORTS, z. */
    private static final class Sea {
        static final int MOMENT = 3 + MOST_VOICES;

        int turn;
        int end;
        int mesh;
        int score;
        int z;
        int count;
        int caught;
        int reports;
        final int[] tide = new int[MOST_TURNS];
        final int[] kind = new int[MOST_VOICES];
        final int[] pitch = new int[MOST_VOICES];
        final int[] strength = new int[MOST_VOICES];
        final int[] place = new int[MOST_VOICES];
        final int[] reportTurns = new int[MOST_REPORTS];
        final int[] reportLeast = new int[MOST_REPORTS];
        final int[] reportMost = new int[MOST_REPORTS];
        final Rules rules = new Rules();
        final Voice[] kinds;
        private final int[] facts = new int[Rules.FACTS];

        Sea(Voice[] things) {
            kinds = things;
            end = 12;
            mesh = 2;
            z = 1;
            Arrays.fill(tide, FLOOD);
        }

        void becomeLike(Sea other) {
            turn = other.turn;
            end = other.end;
            mesh = other.mesh;
            score = other.score;
            z = other.z;
            count = other.count;
            caught = other.caught;
            reports = other.reports;
            System.arraycopy(other.tide, 0, tide, 0, MOST_TURNS);
            System.arraycopy(other.kind, 0, kind, 0, MOST_VOICES);
            System.arraycopy(other.pitch, 0, pitch, 0, MOST_VOICES);
            System.arraycopy(other.strength, 0, strength, 0, MOST_VOICES);
            System.arraycopy(other.place, 0, place, 0, MOST_VOICES);
            System.arraycopy(other.reportTurns, 0, reportTurns, 0, MOST_REPORTS);
            System.arraycopy(other.reportLeast, 0, reportLeast, 0, MOST_REPORTS);
            System.arraycopy(other.reportMost, 0, reportMost, 0, MOST_REPORTS);
            rules.becomeLike(other.rules);
        }

        /** A moment is all that a TURN changes. */
        void saveTo(int[] moment) {
            if (moment.length < MOMENT) {
                return;
            }
            moment[0] = turn;
            moment[1] = score;
            moment[2] = caught;
            System.arraycopy(place, 0, moment, 3, MOST_VOICES);
        }

        void comeBackTo(int[] moment) {
            if (moment.length < MOMENT) {
                return;
            }
            turn = moment[0];
            score = moment[1];
            caught = moment[2];
            System.arraycopy(moment, 3, place, 0, MOST_VOICES);
        }

        int addVoice(int ofKind, int atPitch, int ofStrength, int atPlace) {
            if (count >= MOST_VOICES) {
                return FULL;
            }
            kind[count] = ofKind;
            pitch[count] = atPitch;
            strength[count] = ofStrength;
            place[count] = atPlace;
            count++;
            return count - 1;
        }

        int addReport(int behind, int least, int most) {
            if (reports >= MOST_REPORTS) {
                return FULL;
            }
            reportTurns[reports] = behind;
            reportLeast[reports] = least;
            reportMost[reports] = most;
            reports++;
            return reports - 1;
        }

        boolean has(int v) {
            return v >= 0 && v < count;
        }

        boolean hasAll(int set) {
            return set >= 0 && set < 1 << count;
        }

        boolean isAct(int act) {
            return act >= 0 && act <= count;
        }

        boolean isOver() {
            return turn >= end || turn >= MOST_TURNS;
        }

        boolean isCaught(int v) {
            return (caught >> v & 1) == 1;
        }

        void markCaught(int v, boolean so) {
            caught = so ? caught | 1 << v : caught & ~(1 << v);
        }

        Voice thing(int v) {
            return kinds[kind[v]];
        }

        int driftOf(int v) {
            return thing(v).drifts(strength[v], turn);
        }

        boolean isBursting(int v) {
            return thing(v).bursts(strength[v]);
        }

        int willOf(int v) {
            facts[0] = turn;
            facts[1] = pitch[v];
            facts[2] = strength[v];
            facts[3] = place[v];
            facts[4] = v;
            return rules.deedFor(kind[v], facts);
        }

        int drifted(int from, int drift, int atTurn) {
            if (!isTideTurn(atTurn)) {
                return from;
            }
            switch (tide[atTurn]) {
                case FLOOD: return Math.min(LAST_PLACE, from + drift);
                case EBB: return Math.max(0, from - drift);
                default: return from;
            }
        }

        /** The ACT with the net for the least VOICE at sea. */
        int leastAct() {
            for (int v = 0; v < count; v++) {
                if (!isCaught(v)) {
                    return v + 1;
                }
            }
            return 0;
        }

        int drawLot() {
            z = z * 1103515245 + 12345;
            int acts = count + 1;
            return acts > 0 ? (z >>> 16) % acts : 0;
        }

        int goBy(int act) {
            if (isOver()) {
                return 0;
            }
            drift();
            return cast(act);
        }

        /** The half of a TURN that is the same whatever the ACT is; cast() must follow. */
        void drift() {
            for (int v = 0; v < count; v++) {
                if (!isCaught(v)) {
                    place[v] = drifted(place[v], thing(v).drifts(strength[v], turn), turn);
                }
            }
        }

        int cast(int act) {
            int held = has(act - 1) && !isCaught(act - 1) ? heldByNetAt(place[act - 1]) : 0;
            int worth = 0;
            for (int v = 0; v < count; v++) {
                if ((held >> v & 1) == 1) {
                    int will = willOf(v);
                    worth += worthOf(will, thing(v).price(strength[v]));
                    markCaught(v, will != FREE);
                }
            }
            score += worth;
            turn++;
            return worth;
        }

        /** As a set: none may be done with before it is known that no other one bursts the net. */
        private int heldByNetAt(int at) {
            int held = 0;
            for (int v = 0; v < count; v++) {
                if (!isCaught(v) && Math.abs(place[v] - at) <= 1) {
                    if (isBursting(v)) {
                        return 0;
                    }
                    held |= strength[v] > mesh ? 1 << v : 0;
                }
            }
            return held;
        }

        private static int worthOf(int will, int price) {
            switch (will) {
                case FREE: return 1;
                case SALT: return price / 2 + 3;
                default: return price;
            }
        }
    }

    /** All that is asked: it tries TURNS on the sea itself, and brings it back to the moment where it was. */
    private static final class Lookout {
        static final int STRANGER_STRENGTH = 6;
        static final int PLACES = LAST_PLACE + 1;
        static final int STRANGERS = 5 * PLACES;

        private final Sea sea;
        private final int[] now = new int[Sea.MOMENT];
        private final int[][] ahead = new int[MOST_PLAN][Sea.MOMENT];
        private final int[][] drifted = new int[MOST_PLAN][Sea.MOMENT];
        private final int[] acts = new int[MOST_PLAN];
        private int length;
        private int wanted;
        final int[] first = new int[MOST_PLAN];
        int most;
        int alike;
        int fewest;
        int everCaught;
        int opening;
        final int[] netOf = new int[MOST_VOICES];
        int rowCount;
        final int[][] rows = new int[MOST_PLAN][3];

        Lookout(Sea over) {
            sea = over;
        }

        void remember() {
            sea.saveTo(now);
        }

        void goBack() {
            sea.comeBackTo(now);
        }

        // ---- THE REST

        int worthOfRest(int turns) {
            remember();
            int worth = 0;
            for (int i = 0; i < turns && !sea.isOver(); i++) {
                worth += sea.goBy(sea.leastAct());
            }
            goBack();
            return worth;
        }

        int turnOfCatch(int v) {
            if (sea.isCaught(v)) {
                return NONE;
            }
            remember();
            for (int i = 0; i < MOST_TURNS && !sea.isOver() && !sea.isCaught(v); i++) {
                sea.goBy(sea.leastAct());
            }
            int turn = sea.isCaught(v) ? sea.turn - 1 : NONE;
            goBack();
            return turn;
        }

        int bestMesh() {
            int was = sea.mesh;
            int best = 0;
            int bestWorth = -1;
            for (int mesh = 0; mesh <= MOST_MESH; mesh++) {
                sea.mesh = mesh;
                int worth = worthOfRest(MOST_TURNS);
                if (worth > bestWorth) {
                    best = mesh;
                    bestWorth = worth;
                }
            }
            sea.mesh = was;
            return best;
        }

        int bestPlace(int v) {
            int was = sea.place[v];
            int best = 0;
            int bestWorth = -1;
            for (int place = 0; place <= LAST_PLACE; place++) {
                sea.place[v] = place;
                int worth = worthOfRest(MOST_TURNS);
                if (worth > bestWorth) {
                    best = place;
                    bestWorth = worth;
                }
            }
            sea.place[v] = was;
            return best;
        }

        // ---- quarrels

        private boolean isQuarrel(int v, int u) {
            return Math.abs(sea.pitch[v] - sea.pitch[u]) <= 1;
        }

        int quarrellingPairs() {
            int pairs = 0;
            for (int v = 0; v < sea.count; v++) {
                for (int u = 0; u < v; u++) {
                    if (isQuarrel(v, u)) {
                        pairs++;
                    }
                }
            }
            return pairs;
        }

        /** How many nets; netOf has the FIRST row then. */
        int putApart() {
            for (int nets = 0; nets < sea.count; nets++) {
                if (canPutFrom(0, nets)) {
                    return nets;
                }
            }
            canPutFrom(0, sea.count);
            return sea.count;
        }

        /** The lesser net is tried first, so that the row found is the FIRST; no deeper than there are VOICES. */
        private boolean canPutFrom(int v, int nets) {
            if (v >= sea.count) {
                return true;
            }
            for (int net = 0; net < nets; net++) {
                netOf[v] = net;
                if (isAtPeace(v) && canPutFrom(v + 1, nets)) {
                    return true;
                }
            }
            return false;
        }

        private boolean isAtPeace(int v) {
            for (int u = 0; u < v; u++) {
                if (netOf[u] == netOf[v] && isQuarrel(v, u)) {
                    return false;
                }
            }
            return true;
        }

        int loudestChoir() {
            int loudest = 0;
            int strength = 0;
            for (int set = 1; set < 1 << sea.count; set++) {
                int together = strengthOf(set);
                if (together > strength && isChoir(set)) {
                    loudest = set;
                    strength = together;
                }
            }
            return loudest;
        }

        int strengthOf(int set) {
            int together = 0;
            for (int v = 0; v < sea.count; v++) {
                together += (set >> v & 1) * sea.strength[v];
            }
            return together;
        }

        private boolean isChoir(int set) {
            for (int v = 0; v < sea.count; v++) {
                for (int u = 0; u < v; u++) {
                    if ((set >> v & set >> u & 1) == 1 && isQuarrel(v, u)) {
                        return false;
                    }
                }
            }
            return true;
        }

        // ---- plans

        int planLength(int n) {
            return Math.max(0, Math.min(Math.min(n, MOST_PLAN), sea.end - sea.turn));
        }

        /** One walk over all PLANS of n finds all that is asked of them. */
        void search(int n, int set) {
            length = planLength(n);
            wanted = set;
            most = -1;
            alike = 0;
            fewest = NONE;
            everCaught = 0;
            walk(0, 0, 0);
        }

        private void walk(int depth, int worth, int casts) {
            if (depth >= length) {
                weigh(worth, casts);
                return;
            }
            sea.saveTo(ahead[depth]);
            sea.drift();
            sea.saveTo(drifted[depth]);
            for (int act = 0; act <= sea.count; act++) {
                acts[depth] = act;
                int more = sea.cast(act);
                walk(depth + 1, worth + more, act == 0 ? casts : casts + 1);
                sea.comeBackTo(drifted[depth]);
            }
            sea.comeBackTo(ahead[depth]);
        }

        /** PLANS come with the lesser ACT first, so that only a better one takes the FIRST's place. */
        private void weigh(int worth, int casts) {
            if (worth > most) {
                most = worth;
                alike = 0;
                System.arraycopy(acts, 0, first, 0, MOST_PLAN);
            }
            if (worth == most) {
                alike++;
            }
            everCaught |= sea.caught;
            if ((wanted & ~sea.caught) == 0 && (fewest == NONE || casts < fewest)) {
                fewest = casts;
            }
        }

        // ---- the game

        int valueOfGame(int n) {
            length = planLength(n);
            opening = 0;
            return valueFrom(0);
        }

        private int valueFrom(int depth) {
            if (depth >= length) {
                return 0;
            }
            boolean wantsMore = (depth & 1) == 0;
            int value = 0;
            sea.saveTo(ahead[depth]);
            sea.drift();
            sea.saveTo(drifted[depth]);
            for (int act = 0; act <= sea.count; act++) {
                int worth = sea.cast(act) + valueFrom(depth + 1);
                sea.comeBackTo(drifted[depth]);
                if (act == 0 || (wantsMore ? worth > value : worth < value)) {
                    value = worth;
                    if (depth == 0) {
                        opening = act;
                    }
                }
            }
            sea.comeBackTo(ahead[depth]);
            return value;
        }

        // ---- strange voices: number s is KIND s / 16 + 1, PLACE s % 16, so that the least number is the one asked for

        static int kindOfStranger(int s) {
            return s / PLACES + 1;
        }

        static int placeOfStranger(int s) {
            return s % PLACES;
        }

        int howManyFit() {
            int fit = 0;
            for (int s = 0; s < STRANGERS; s++) {
                if (brokenBy(s) == 0) {
                    fit++;
                }
            }
            return fit;
        }

        int leastThatFits() {
            for (int s = 0; s < STRANGERS; s++) {
                if (brokenBy(s) == 0) {
                    return s;
                }
            }
            return NONE;
        }

        int leastLiar() {
            int alone = 0;
            for (int s = 0; s < STRANGERS; s++) {
                int broken = brokenBy(s);
                if (broken == 0) {
                    return NONE;
                }
                if (Integer.bitCount(broken) == 1) {
                    alone |= broken;
                }
            }
            return leastOf(alone);
        }

        /** The set of REPORTS that aren't so by a STRANGE VOICE. */
        private int brokenBy(int s) {
            Voice thing = sea.kinds[kindOfStranger(s)];
            int place = placeOfStranger(s);
            int broken = 0;
            for (int turn = 0; turn < MOST_TURNS; turn++) {
                broken |= brokenAt(turn, place);
                place = sea.drifted(place, thing.drifts(STRANGER_STRENGTH, turn), turn);
            }
            return broken;
        }

        private int brokenAt(int behind, int place) {
            int broken = 0;
            for (int r = 0; r < sea.reports; r++) {
                if (sea.reportTurns[r] == behind && !isWithin(place, sea.reportLeast[r], sea.reportMost[r])) {
                    broken |= 1 << r;
                }
            }
            return broken;
        }

        // ---- lots

        int timesWorth(int n, int least) {
            int was = sea.z;
            remember();
            int enough = 0;
            for (int i = 0; i < n; i++) {
                if (worthByLot() >= least) {
                    enough++;
                }
                goBack();
            }
            sea.z = was;
            return enough;
        }

        private int worthByLot() {
            int worth = 0;
            for (int i = 0; i < MOST_TURNS && !sea.isOver(); i++) {
                worth += sea.goBy(sea.drawLot());
            }
            return worth;
        }

        // ---- rows

        boolean hasRow(int k) {
            return k >= 0 && k < rowCount;
        }

        /** Of the latest search. */
        int writeRows() {
            remember();
            for (int k = 0; k < length; k++) {
                rows[k][0] = first[k];
                rows[k][1] = sea.goBy(first[k]);
                rows[k][2] = sea.caught;
            }
            rowCount = length;
            goBack();
            return rowCount;
        }

        int firstWrongRow() {
            remember();
            int wrong = 0;
            for (int k = 0; k < rowCount && wrong == 0; k++) {
                if (!isRight(rows[k])) {
                    wrong = k + 1;
                }
            }
            goBack();
            return wrong;
        }

        /** The TURN goes by, if it can. */
        private boolean isRight(int[] row) {
            if (row.length < 3 || sea.isOver() || !sea.isAct(row[0])) {
                return false;
            }
            return sea.goBy(row[0]) == row[1] && sea.caught == row[2];
        }
    }
}
