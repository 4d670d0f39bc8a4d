import java.util.ArrayList;
import java.util.List;

/**
 * A second writing of the document for TwinTest: plain and slow, with copies where VoiceNets goes back, every plan
 * tried from its start, rules read anew each time they are asked, and the host's refusals left to the Java machine.
 */
final class PlainNets {
    private static final int BAD = -1, FULL = -2, NONE = -3, STATE = -4;
    private static final String[] KINDS = {"voice", "child", "quarrel", "prayer", "foghorn", "gull"};
    private static final String[] DEEDS = {"keep", "free", "salt"};

    // ---- things of kinds

    static class Thing implements Cloneable {
        int n, pitch, a, place;
        boolean caught;
        List<Integer> trace = new ArrayList<>();

        int kind() { return 0; }
        int drifts(int turn) { return 1; }
        int price() { return a; }
        boolean bursts() { return false; }
        int hums(int x) { trace.add(10); return x * 3 - n; }
        int calls(int x) { trace.add(11); return hums(x) + a; }
        int parts(int x) { trace.add(12); return x / (n - a); }
        int rings(int x) { trace.add(13); return calls(x) ^ parts(x); }

        Thing copy() {
            try {
                Thing t = (Thing) clone();
                t.trace = new ArrayList<>();
                return t;
            } catch (CloneNotSupportedException e) {
                throw new IllegalStateException(e);
            }
        }
    }

    static class Child extends Thing {
        @Override int kind() { return 1; }
        @Override int drifts(int turn) { return 2; }
        @Override int price() { return a + a; }
        @Override int hums(int x) { trace.add(20); return super.hums(x) + 7; }
    }

    static class Quarrel extends Thing {
        @Override int kind() { return 2; }
        @Override int drifts(int turn) { return a > 5 ? 2 : 1; }
        @Override int price() { return a < 2 ? 0 : a - 2; }
        @Override int calls(int x) { trace.add(30); return -super.calls(x); }
    }

    static class Prayer extends Quarrel {
        @Override int kind() { return 3; }
        @Override int drifts(int turn) { return turn % 2 != 0 ? 0 : a > 5 ? 2 : 1; }
        @Override int price() { return a < 2 ? 5 : a + 3; }
        @Override int hums(int x) { trace.add(50); return super.hums(x - 1); }
        @Override int rings(int x) { trace.add(51); return super.rings(x) + calls(n); }
    }

    static class Foghorn extends Thing {
        @Override int kind() { return 4; }
        @Override int drifts(int turn) { return 0; }
        @Override int price() { return 1; }
        @Override boolean bursts() { return a > 7; }
        @Override int parts(int x) { trace.add(40); return super.parts(x) * a; }
    }

    static class Gull extends Foghorn {
        @Override int kind() { return 5; }
        @Override int drifts(int turn) { return 2; }
        @Override int price() { return 0; }
        @Override boolean bursts() { return false; }
        @Override int calls(int x) { trace.add(60); return super.calls(x) ^ 9; }
        @Override int parts(int x) { trace.add(61); return super.parts(x) + hums(a); }
    }

    static Thing make(int kind) {
        switch (kind) {
            case 0: return new Thing();
            case 1: return new Child();
            case 2: return new Quarrel();
            case 3: return new Prayer();
            case 4: return new Foghorn();
            default: return new Gull();
        }
    }

    static boolean isThing(Thing t, int kind) {
        switch (kind) {
            case 0: return true;
            case 1: return t instanceof Child;
            case 2: return t instanceof Quarrel;
            case 3: return t instanceof Prayer;
            case 4: return t instanceof Foghorn;
            default: return t instanceof Gull;
        }
    }

    // ---- the sea, copied whole

    static final class Waters {
        int turn = 0, end = 12, mesh = 2, score = 0, z = 1;
        int[] tides = {1, 1, 1, 1, 1, 1, 1, 1, 1, 1, 1, 1, 1, 1, 1, 1};
        List<Thing> voices = new ArrayList<>();
        String rules = "";
        List<int[]> reports = new ArrayList<>();

        Waters copy() {
            Waters w = new Waters();
            w.turn = turn;
            w.end = end;
            w.mesh = mesh;
            w.score = score;
            w.z = z;
            w.tides = tides.clone();
            for (Thing t : voices) w.voices.add(t.copy());
            w.rules = rules;
            w.reports = new ArrayList<>(reports);
            return w;
        }

        boolean over() { return turn >= end; }

        int caught() {
            int set = 0;
            for (Thing t : voices) if (t.caught) set += 1 << t.n;
            return set;
        }

        int least() {
            for (Thing t : voices) if (!t.caught) return t.n + 1;
            return 0;
        }

        int lot() {
            z = z * 1103515245 + 12345;
            return (z >>> 16) % (voices.size() + 1);
        }

        int will(Thing t) {
            return new Reader(rules).firstDeed(t, turn);
        }

        int go(int act) {
            for (Thing t : voices) {
                if (t.caught) continue;
                int by = tides[turn] == 1 ? t.drifts(turn) : tides[turn] == 2 ? -t.drifts(turn) : 0;
                t.place = Math.min(15, Math.max(0, t.place + by));
            }
            int worth = 0;
            if (act > 0 && !voices.get(act - 1).caught) {
                List<Thing> in = new ArrayList<>();
                boolean burst = false;
                int at = voices.get(act - 1).place;
                for (Thing t : voices) {
                    if (!t.caught && (t.place == at || t.place == at - 1 || t.place == at + 1)) {
                        in.add(t);
                        burst |= t.bursts();
                    }
                }
                for (Thing t : in) {
                    if (burst || t.a <= mesh) continue;
                    int will = will(t);
                    worth += will == 1 ? 1 : will == 2 ? t.price() / 2 + 3 : t.price();
                    if (will != 1) t.caught = true;
                }
            }
            turn++;
            score += worth;
            return worth;
        }

        int rest(int turns) {
            Waters w = copy();
            int sum = 0;
            while (turns-- > 0 && !w.over()) sum += w.go(w.least());
            return sum;
        }
    }

    // ---- the rules: read as they stand, conditions worked out while they are read

    static final class Fault extends RuntimeException {
        private static final long serialVersionUID = 1L;
        final int at;
        Fault(int at) { super(null, null, false, false); this.at = at; }
    }

    static final class Reader {
        final String s;
        int p = 0;
        Thing thing = make(1);
        int turn = 0;

        Reader(String s) { this.s = s; }

        /** The token that begins behind blanks at p; "" at the end. */
        String peek() {
            while (p < s.length() && s.charAt(p) == ' ') p++;
            int q = p;
            while (q < s.length() && s.charAt(q) >= 'a' && s.charAt(q) <= 'z') q++;
            if (q == p) while (q < s.length() && s.charAt(q) >= '0' && s.charAt(q) <= '9') q++;
            if (q == p && q < s.length()) q++;
            return s.substring(p, q);
        }

        boolean eat(String t) {
            if (!peek().equals(t)) return false;
            p += t.length();
            return true;
        }

        int one(String... of) {
            for (int i = 0; i < of.length; i++) if (eat(of[i])) return i;
            peek();
            throw new Fault(p);
        }

        int count() {
            int n = 0;
            while (!peek().isEmpty()) {
                if (n == 8) throw new Fault(p);
                one(KINDS);
                if (eat("if")) cond(0);
                one(DEEDS);
                one(";");
                n++;
            }
            return n;
        }

        int firstDeed(Thing t, int atTurn) {
            thing = t;
            turn = atTurn;
            while (!peek().isEmpty()) {
                boolean fits = isThing(t, one(KINDS));
                if (eat("if")) fits = cond(0) && fits;
                int deed = one(DEEDS);
                one(";");
                if (fits) return deed;
            }
            return 0;
        }

        boolean cond(int open) {
            boolean b = all(open);
            while (eat("or")) b = all(open) || b;
            return b;
        }

        boolean all(int open) {
            boolean b = single(open);
            while (eat("and")) b = single(open) && b;
            return b;
        }

        boolean single(int open) {
            if (eat("not")) return !single(open);
            if (peek().equals("(")) {
                if (open == 3) throw new Fault(p);
                one("(");
                boolean b = cond(open + 1);
                one(")");
                return b;
            }
            int left = value();
            int sign = one("<", "=", ">");
            int right = value();
            return sign == 0 ? left < right : sign == 1 ? left == right : left > right;
        }

        int value() {
            String t = peek();
            if (t.matches("[0-9]{1,4}")) {
                p += t.length();
                return Integer.parseInt(t);
            }
            switch (one("turn", "pitch", "strength", "place", "number")) {
                case 0: return turn;
                case 1: return thing.pitch;
                case 2: return thing.a;
                case 3: return thing.place;
                default: return thing.n;
            }
        }
    }

    // ---- the face

    private Waters w = new Waters();
    private Waters keptWaters;
    private String tape = "";
    private List<int[]> rows = new ArrayList<>();
    private final Object[] sheets = new Object[4];
    private final Object[] shelves = new Object[4];
    private List<Integer> trace = new ArrayList<>();

    private static boolean in(int x, int least, int most) { return least <= x && x <= most; }
    private boolean has(int v) { return in(v, 0, w.voices.size() - 1); }

    int voice(int kind, int pitch, int strength, int place) {
        if (!in(kind, 1, 5) || !in(pitch, 0, 9) || !in(strength, 1, 9) || !in(place, 0, 15)) return BAD;
        if (w.voices.size() == 6) return FULL;
        w.voices.add(like(kind, w.voices.size(), pitch, strength, place, false));
        return w.voices.size() - 1;
    }

    private static Thing like(int kind, int n, int pitch, int a, int place, boolean caught) {
        Thing t = make(kind);
        t.n = n;
        t.pitch = pitch;
        t.a = a;
        t.place = place;
        t.caught = caught;
        return t;
    }

    int voiceOf(int v, int what) {
        if (!has(v) || !in(what, 0, 8)) return BAD;
        Thing t = w.voices.get(v);
        int[] all = {t.kind(), t.pitch, t.a, t.place, t.caught ? 1 : 0, t.drifts(w.turn), t.price(),
            t.bursts() ? 1 : 0, w.will(t)};
        return all[what];
    }

    int change(int v, int what, int x) {
        if (!has(v) || !in(what, 1, 4)) return BAD;
        Thing t = w.voices.get(v);
        int was = voiceOf(v, what);
        if (what == 1 && in(x, 0, 9)) t.pitch = x;
        else if (what == 2 && in(x, 1, 9)) t.a = x;
        else if (what == 3 && in(x, 0, 15)) t.place = x;
        else if (what == 4 && in(x, 0, 1)) t.caught = x == 1;
        else return BAD;
        return was;
    }

    int remake(int v, int kind) {
        if (!has(v) || !in(kind, 1, 5)) return BAD;
        Thing t = w.voices.get(v);
        w.voices.set(v, like(kind, t.n, t.pitch, t.a, t.place, t.caught));
        return t.kind();
    }

    int tide(int turn, int x) {
        if (!in(turn, 0, 15) || !in(x, 0, 2)) return BAD;
        int was = w.tides[turn];
        w.tides[turn] = x;
        return was;
    }

    int tideOf(int turn) { return in(turn, 0, 15) ? w.tides[turn] : BAD; }

    int set(int what, int x) {
        if (what == 0 && in(x, 1, 16)) {
            if (x < w.turn) return STATE;
            int was = w.end;
            w.end = x;
            return was;
        }
        if (what == 1 && in(x, 0, 9)) {
            int was = w.mesh;
            w.mesh = x;
            return was;
        }
        return BAD;
    }

    int anew() {
        int was = w.turn;
        w.turn = w.score = 0;
        for (Thing t : w.voices) t.caught = false;
        return was;
    }

    int state(int what) {
        int[] all = {w.turn, w.end, w.score, w.over() ? 1 : 0, w.caught(), w.mesh};
        return in(what, 0, 5) ? all[what] : BAD;
    }

    int feed(long eight, int n) {
        if (!in(n, 1, 8)) return BAD;
        if (tape.length() + n > 200) return FULL;
        for (int i = 0; i < n; i++) {
            tape += (char) (eight & 0xff);
            eight >>= 8;
        }
        return tape.length();
    }

    int rules() {
        String text = tape;
        tape = "";
        try {
            int n = new Reader(text).count();
            w.rules = text;
            return n;
        } catch (Fault f) {
            return -100 - f.at;
        }
    }

    int turn() { return w.over() ? STATE : w.go(w.least()); }

    int on(int n) { return in(n, 0, 16) ? w.rest(n) : BAD; }

    int when(int v) {
        if (!has(v)) return BAD;
        if (w.voices.get(v).caught) return NONE;
        Waters y = w.copy();
        while (!y.over()) {
            y.go(y.least());
            if (y.voices.get(v).caught) return y.turn - 1;
        }
        return NONE;
    }

    int meshFor() {
        int best = 9;
        int most = -1;
        for (int m = 9; m >= 0; m--) {
            Waters y = w.copy();
            y.mesh = m;
            if (y.rest(99) >= most) {
                most = y.rest(99);
                best = m;
            }
        }
        return best;
    }

    int placeFor(int v) {
        if (!has(v)) return BAD;
        int best = 15;
        int most = -1;
        for (int p = 15; p >= 0; p--) {
            Waters y = w.copy();
            y.voices.get(v).place = p;
            if (y.rest(99) >= most) {
                most = y.rest(99);
                best = p;
            }
        }
        return best;
    }

    private boolean quarrel(int v, int u) {
        int d = w.voices.get(v).pitch - w.voices.get(u).pitch;
        return d == 0 || d == 1 || d == -1;
    }

    int quarrels() {
        int n = 0;
        for (int v = 0; v < w.voices.size(); v++) for (int u = v + 1; u < w.voices.size(); u++) if (quarrel(v, u)) n++;
        return n;
    }

    /** All rows of nets, in their order; of those with fewest nets the first. */
    int apart(int what) {
        int n = w.voices.size();
        if (!in(what, -1, n - 1)) return BAD;
        if (n == 0) return 0;
        int[] best = null;
        int fewest = 99;
        int all = 1;
        for (int i = 0; i < n; i++) all *= n;
        for (int c = 0; c < all; c++) {
            int[] net = new int[n];
            int used = 0;
            for (int i = n - 1, r = c; i >= 0; i--, r /= n) {
                net[i] = r % n;
                used |= 1 << net[i];
            }
            if (Integer.bitCount(used) >= fewest) continue;
            boolean peace = true;
            for (int v = 0; v < n; v++) for (int u = 0; u < v; u++) peace &= net[v] != net[u] || !quarrel(v, u);
            if (peace) {
                fewest = Integer.bitCount(used);
                best = net;
            }
        }
        return what == -1 ? fewest : best[what];
    }

    int choir(int what) {
        if (!in(what, 0, 1)) return BAD;
        int best = 0;
        int most = 0;
        for (int set = (1 << w.voices.size()) - 1; set >= 0; set--) {
            int sum = 0;
            boolean peace = true;
            for (Thing t : w.voices) {
                if ((set & 1 << t.n) == 0) continue;
                sum += t.a;
                for (Thing u : w.voices) peace &= u.n <= t.n || (set & 1 << u.n) == 0 || !quarrel(t.n, u.n);
            }
            if (peace && sum >= most) {
                most = sum;
                best = set;
            }
        }
        return what == 0 ? best : most;
    }

    /** Each plan of n as {worth, caught behind it, casts, acts ..}, in their order. */
    private List<int[]> plans(int n) {
        int len = Math.min(n, Math.max(0, w.end - w.turn));
        int base = w.voices.size() + 1;
        int all = 1;
        for (int i = 0; i < len; i++) all *= base;
        List<int[]> plans = new ArrayList<>();
        for (int c = 0; c < all; c++) {
            int[] plan = new int[3 + len];
            for (int i = len - 1, r = c; i >= 0; i--, r /= base) plan[3 + i] = r % base;
            Waters y = w.copy();
            for (int i = 0; i < len; i++) {
                plan[0] += y.go(plan[3 + i]);
                if (plan[3 + i] != 0) plan[2]++;
            }
            plan[1] = y.caught();
            plans.add(plan);
        }
        return plans;
    }

    private List<int[]> bestPlans(int n) {
        List<int[]> best = new ArrayList<>();
        for (int[] plan : plans(n)) {
            if (!best.isEmpty() && plan[0] > best.get(0)[0]) best.clear();
            if (best.isEmpty() || plan[0] == best.get(0)[0]) best.add(plan);
        }
        return best;
    }

    int best(int n) { return in(n, 0, 4) ? bestPlans(n).get(0)[0] : BAD; }

    int ith(int n, int i) {
        if (!in(n, 0, 4) || !in(i, 0, 3)) return BAD;
        int[] first = bestPlans(n).get(0);
        return 3 + i < first.length ? first[3 + i] : NONE;
    }

    int ways(int n) { return in(n, 0, 4) ? bestPlans(n).size() : BAD; }

    int haul(int n, int set) {
        if (!in(n, 0, 4) || !in(set, 0, (1 << w.voices.size()) - 1)) return BAD;
        int fewest = 99;
        for (int[] plan : plans(n)) if ((plan[1] & set) == set) fewest = Math.min(fewest, plan[2]);
        return fewest == 99 ? NONE : fewest;
    }

    int bars(int n, int set) {
        if (!in(n, 0, 4) || !in(set, 0, (1 << w.voices.size()) - 1)) return BAD;
        List<int[]> plans = plans(n);
        for (int v = 0; v < w.voices.size(); v++) {
            if ((set & 1 << v) == 0) continue;
            boolean some = false;
            for (int[] plan : plans) some |= (plan[1] & 1 << v) != 0;
            if (!some) return v;
        }
        return NONE;
    }

    private static int[] valueAndAct(Waters y, int n, boolean first) {
        if (n == 0 || y.over()) return new int[] {0, 0};
        int[] best = null;
        for (int act = y.voices.size(); act >= 0; act--) {
            Waters u = y.copy();
            int value = u.go(act) + valueAndAct(u, n - 1, !first)[0];
            if (best == null || (first ? value >= best[0] : value <= best[0])) best = new int[] {value, act};
        }
        return best;
    }

    int game(int n) { return in(n, 1, 4) ? valueAndAct(w, n, true)[0] : BAD; }

    int play(int n) { return !in(n, 1, 4) ? BAD : w.over() ? NONE : valueAndAct(w, n, true)[1]; }

    int report(int k, int least, int most) {
        if (!in(k, 0, 15) || !in(least, 0, 15) || !in(most, 0, 15) || most < least) return BAD;
        if (w.reports.size() == 6) return FULL;
        w.reports.add(new int[] {k, least, most});
        return w.reports.size() - 1;
    }

    int forget() {
        int was = w.reports.size();
        w.reports.clear();
        return was;
    }

    private boolean isSo(int kind, int place, int[] report) {
        Thing t = like(kind, 0, 0, 6, place, false);
        for (int i = 0; i < report[0]; i++) {
            int by = new int[] {0, 1, -1}[w.tides[i]] * t.drifts(i);
            t.place = Math.min(15, Math.max(0, t.place + by));
        }
        return in(t.place, report[1], report[2]);
    }

    private List<int[]> fit(List<int[]> reports) {
        List<int[]> fit = new ArrayList<>();
        for (int kind = 1; kind <= 5; kind++) {
            for (int place = 0; place < 16; place++) {
                boolean all = true;
                for (int[] r : reports) all &= isSo(kind, place, r);
                if (all) fit.add(new int[] {kind, place});
            }
        }
        return fit;
    }

    int span(int what) {
        if (!in(what, 0, 2)) return BAD;
        List<int[]> fit = fit(w.reports);
        if (what == 0) return fit.size();
        return fit.isEmpty() ? NONE : fit.get(0)[what - 1];
    }

    int liar() {
        if (!fit(w.reports).isEmpty()) return NONE;
        for (int r = 0; r < w.reports.size(); r++) {
            List<int[]> others = new ArrayList<>(w.reports);
            others.remove(r);
            if (!fit(others).isEmpty()) return r;
        }
        return NONE;
    }

    int seed(int v) {
        int was = w.z;
        w.z = v;
        return was;
    }

    int lot() { return w.over() ? STATE : w.go(w.lot()); }

    int times(int n, int v) {
        if (!in(n, 1, 40) || !in(v, 0, 999)) return BAD;
        int z = w.z;
        int hits = 0;
        for (int i = 0; i < n; i++) {
            Waters y = w.copy();
            y.z = z;
            int sum = 0;
            while (!y.over()) sum += y.go(y.lot());
            if (sum >= v) hits++;
            z = y.z;
        }
        return hits;
    }

    int prove(int n) {
        if (!in(n, 0, 4)) return BAD;
        int[] first = bestPlans(n).get(0);
        rows = new ArrayList<>();
        Waters y = w.copy();
        for (int i = 3; i < first.length; i++) rows.add(new int[] {first[i], y.go(first[i]), y.caught()});
        return rows.size();
    }

    int row(int k, int what) {
        return in(k, 0, rows.size() - 1) && in(what, 0, 2) ? rows.get(k)[what] : -9;
    }

    int alterRow(int k, int what, int v) {
        int was = row(k, what);
        if (in(k, 0, rows.size() - 1) && in(what, 0, 2)) rows.get(k)[what] = v;
        return was;
    }

    int judge() {
        Waters y = w.copy();
        int n = 0;
        for (int[] row : rows) {
            n++;
            if (y.over() || !in(row[0], 0, y.voices.size())) return n;
            if (y.go(row[0]) != row[1] || y.caught() != row[2]) return n;
        }
        return 0;
    }

    int sheet(int sheet, int sort, int n) {
        if (!in(sheet, 0, 3) || !in(sort, -1, 4) || sort >= 0 && n > 40) return BAD;
        try {
            switch (sort) {
                case -1: sheets[sheet] = null; break;
                case 0: sheets[sheet] = new byte[n]; break;
                case 1: sheets[sheet] = new short[n]; break;
                case 2: sheets[sheet] = new int[n]; break;
                case 3: sheets[sheet] = new long[n]; break;
                default: sheets[sheet] = new boolean[n]; break;
            }
            return 1;
        } catch (NegativeArraySizeException e) {
            return -14;
        }
    }

    int write(int sheet, int i, int v) {
        if (!in(sheet, 0, 3)) return BAD;
        Object o = sheets[sheet];
        try {
            if (o instanceof byte[]) ((byte[]) o)[i] = (byte) v;
            else if (o instanceof short[]) ((short[]) o)[i] = (short) v;
            else if (o instanceof long[]) ((long[]) o)[i] = v;
            else if (o instanceof boolean[]) ((boolean[]) o)[i] = v != 0;
            else ((int[]) o)[i] = v;
            return 1;
        } catch (NullPointerException e) {
            return -11;
        } catch (ArrayIndexOutOfBoundsException e) {
            return -12;
        }
    }

    int item(int sheet, int sort, int i) {
        if (!in(sheet, 0, 3) || !in(sort, 0, 4)) return BAD;
        Object o = sheets[sheet];
        try {
            switch (sort) {
                case 0: return ((byte[]) o)[i];
                case 1: return ((short[]) o)[i];
                case 2: return ((int[]) o)[i];
                case 3: return (int) ((long[]) o)[i];
                default: return ((boolean[]) o)[i] ? 1 : 0;
            }
        } catch (ClassCastException e) {
            return -13;
        } catch (NullPointerException e) {
            return -11;
        } catch (ArrayIndexOutOfBoundsException e) {
            return -12;
        }
    }

    private int go(Waters y, int sheet, int i, int n, boolean strict) {
        if (!in(sheet, 0, 3) || !in(n, 0, 20)) return BAD;
        try {
            byte[] b = (byte[]) sheets[sheet];
            int length = b.length;
            int sum = 0;
            for (int k = 0; k < n; k++) {
                int act = b[i + k];
                boolean can = in(act, 0, y.voices.size()) && !y.over() && length > 0;
                if (strict && !can) return STATE;
                if (can) sum += y.go(act);
            }
            return sum;
        } catch (ClassCastException e) {
            return -13;
        } catch (NullPointerException e) {
            return -11;
        } catch (ArrayIndexOutOfBoundsException e) {
            return -12;
        }
    }

    int goAll(int sheet, int i, int n) { return go(w, sheet, i, n, false); }

    int wouldBe(int sheet, int i, int n) { return go(w.copy(), sheet, i, n, true); }

    int shelf(int shelf, int what, int n) {
        if (!in(shelf, 0, 3) || !in(what, 0, 2)) return BAD;
        if (what == 0 && !has(n) || what == 1 && !in(n, 0, 3)) return BAD;
        shelves[shelf] = what == 0 ? (Object) n : what == 1 ? sheets[n] : null;
        return 1;
    }

    private Object on(Object held) {
        if (!(held instanceof Integer)) return held;
        return has((Integer) held) ? w.voices.get((Integer) held) : null;
    }

    int taken(int shelf, int as) {
        if (!in(shelf, 0, 3) || !in(as, 0, 5) && !in(as, 10, 14)) return BAD;
        Object o = on(shelves[shelf]);
        try {
            switch (as) {
                case 0: return ((Thing) o).n;
                case 1: return ((Child) o).n;
                case 2: return ((Quarrel) o).n;
                case 3: return ((Prayer) o).n;
                case 4: return ((Foghorn) o).n;
                case 5: return ((Gull) o).n;
                case 10: return ((byte[]) o).length;
                case 11: return ((short[]) o).length;
                case 12: return ((int[]) o).length;
                case 13: return ((long[]) o).length;
                default: return ((boolean[]) o).length;
            }
        } catch (ClassCastException e) {
            return -13;
        } catch (NullPointerException e) {
            return -11;
        }
    }

    int act(int shelf, int act, int x) {
        trace = new ArrayList<>();
        if (!in(shelf, 0, 3) || !in(act, 0, 3) || !(on(shelves[shelf]) instanceof Thing)) return 0;
        Thing t = ((Thing) on(shelves[shelf])).copy();
        trace = t.trace;
        try {
            return act == 0 ? t.hums(x) : act == 1 ? t.calls(x) : act == 2 ? t.parts(x) : t.rings(x);
        } catch (ArithmeticException e) {
            return -15;
        }
    }

    int trace(int i) { return in(i, 0, Math.min(30, trace.size()) - 1) ? trace.get(i) : NONE; }

    int many(int what) {
        if (!in(what, 0, 6)) return BAD;
        int[] all = {w.voices.size(), new Reader(w.rules).count(), Integer.bitCount(w.caught()), w.reports.size(),
            rows.size(), tape.length(), Math.min(30, trace.size())};
        return all[what];
    }

    int keep() {
        keptWaters = w.copy();
        return 1;
    }

    int again() {
        if (keptWaters == null) return NONE;
        w = keptWaters.copy();
        return w.voices.size();
    }
}
