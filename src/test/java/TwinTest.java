import java.util.ArrayList;
import java.util.List;
import java.util.Random;

/** Runs of calls by a fixed row of chance numbers; each answer is held against that of PlainNets. */
public final class TwinTest {
    private static final int RUNS = 400;
    private static final int CALLS = 160;
    private static final int[] FAR = {Integer.MIN_VALUE, Integer.MIN_VALUE + 1, -100, -2, -1, 41, 99, 256, 1 << 30,
        Integer.MAX_VALUE - 1, Integer.MAX_VALUE};

    private final Random chance;
    private final VoiceNets nets = new VoiceNets();
    private final PlainNets plain = new PlainNets();
    private final List<String> log = new ArrayList<>();
    private boolean wrong = false;

    private TwinTest(long seed) {
        chance = new Random(seed);
    }

    public static void main(String[] args) {
        int runs = args.length > 0 ? Integer.parseInt(args[0]) : RUNS;
        long from = args.length > 1 ? Long.parseLong(args[1]) : 1;
        int failed = 0;
        for (long seed = from; seed < from + runs && failed < 5; seed++) {
            TwinTest run = new TwinTest(seed);
            run.goOn();
            if (run.wrong) {
                failed++;
                System.out.println("run " + seed + ":");
                for (String line : run.log) System.out.println("  " + line);
            }
        }
        System.out.println(failed == 0 ? "both answered alike" : failed + " runs went apart");
        if (failed != 0) System.exit(1);
    }

    private void goOn() {
        int voices = chance.nextInt(8);
        for (int i = 0; i < voices; i++) call(0);
        for (int i = 0; i < CALLS && !wrong; i++) {
            if (chance.nextInt(12) == 0) tell(text());
            else call(chance.nextInt(50));
            if (chance.nextInt(4) == 0) look();
        }
        look();
    }

    /** Most often a number as told, now and then one just outside or far away. */
    private int num(int least, int most) {
        int c = chance.nextInt(40);
        if (c == 0) return FAR[chance.nextInt(FAR.length)];
        if (c == 1) return least - 1;
        if (c == 2) return most + 1;
        return least + chance.nextInt(most - least + 1);
    }

    private int v() {
        return num(0, Math.max(0, nets.many(0) - 1));
    }

    private void due(String call, int got, int want) {
        log.add(call + " answered " + got + (got == want ? "" : ", due is " + want));
        if (got != want) wrong = true;
    }

    private static String say(String name, Object... of) {
        StringBuilder s = new StringBuilder(name).append('(');
        for (int i = 0; i < of.length; i++) s.append(i == 0 ? "" : ", ").append(of[i]);
        return s.append(')').toString();
    }

    private void look() {
        for (int v = 0; v < 6; v++) {
            for (int what = 0; what < 9; what++) due(say("voiceOf", v, what), nets.voiceOf(v, what), plain.voiceOf(v, what));
        }
        for (int what = 0; what < 6; what++) due(say("state", what), nets.state(what), plain.state(what));
        for (int what = 0; what < 7; what++) due(say("many", what), nets.many(what), plain.many(what));
        for (int i = 0; i < 12; i++) due(say("trace", i), nets.trace(i), plain.trace(i));
        for (int t = 0; t < 16; t++) due(say("tideOf", t), nets.tideOf(t), plain.tideOf(t));
        for (int k = 0; k < 4; k++) for (int what = 0; what < 3; what++) due(say("row", k, what), nets.row(k, what), plain.row(k, what));
    }

    private void tell(String text) {
        for (int i = 0; i < text.length(); i += 8) {
            int n = Math.min(8, text.length() - i);
            long eight = n < 8 && chance.nextBoolean() ? -1L << 8 * n : 0;
            for (int k = 0; k < n; k++) eight |= (long) (text.charAt(i + k) & 255) << 8 * k;
            due(say("feed", eight, n), nets.feed(eight, n), plain.feed(eight, n));
        }
        if (chance.nextInt(10) > 0) due(say("rules") + " of " + text, nets.rules(), plain.rules());
    }

    // ---- texts

    private String pick(String... of) {
        return of[chance.nextInt(of.length)];
    }

    private String text() {
        StringBuilder s = new StringBuilder();
        int rules = chance.nextInt(8) == 0 ? 7 + chance.nextInt(4) : 1 + chance.nextInt(4);
        for (int i = 0; i < rules; i++) {
            s.append(pick("voice", "child", "quarrel", "prayer", "foghorn", "gull")).append(gap(true));
            if (rules < 7 && chance.nextInt(4) > 0) s.append("if").append(gap(true)).append(cond(0)).append(gap(true));
            s.append(pick("keep", "free", "salt")).append(gap(false)).append(';').append(gap(false));
        }
        if (chance.nextInt(3) == 0) spoil(s);
        return s.toString();
    }

    private String gap(boolean must) {
        int c = chance.nextInt(must ? 12 : 3);
        return must ? (c == 0 ? "  " : " ") : (c == 0 ? " " : "");
    }

    private String cond(int open) {
        StringBuilder s = new StringBuilder(one(open));
        for (int i = chance.nextInt(3); i > 0; i--) s.append(gap(true)).append(pick("and", "or")).append(gap(true)).append(one(open));
        return s.toString();
    }

    private String one(int open) {
        String nots = chance.nextInt(4) == 0 ? pick("not ", "not not ", "not not not ") : "";
        if (open < 4 && chance.nextInt(3) == 0) return nots + "(" + gap(false) + cond(open + 1) + gap(false) + ")";
        return nots + value() + gap(false) + pick("<", "=", ">") + gap(false) + value();
    }

    private String value() {
        return chance.nextInt(3) == 0 ? pick("0", "1", "2", "3", "5", "7", "12", "007", "9999", "00004")
            : pick("turn", "pitch", "strength", "place", "number");
    }

    private void spoil(StringBuilder s) {
        int at = chance.nextInt(s.length());
        switch (chance.nextInt(4)) {
            case 0: s.deleteCharAt(at); break;
            case 1: s.insert(at, (char) chance.nextInt(256)); break;
            case 2: s.insert(at, pick("(", ")", " ", "and", "or", "not", "if", ";", "12345", "a", "9", "keep ")); break;
            default: s.setLength(at); break;
        }
    }

    // ---- calls

    private void call(int which) {
        if (which < 13) callSea(which);
        else if (which < 30) callPlans(which);
        else callHost(which);
    }

    private void callSea(int which) {
        int a = v();
        switch (which) {
            case 0: case 1: {
                int k = num(1, 5), p = num(0, 9), s = num(1, 9), at = num(0, 15);
                due(say("voice", k, p, s, at), nets.voice(k, p, s, at), plain.voice(k, p, s, at));
                break;
            }
            case 2: case 3: {
                int what = num(1, 4), x = what == 4 ? num(0, 1) : num(0, 9);
                due(say("change", a, what, x), nets.change(a, what, x), plain.change(a, what, x));
                break;
            }
            case 4: { int k = num(1, 5); due(say("remake", a, k), nets.remake(a, k), plain.remake(a, k)); break; }
            case 5: case 6: { int t = num(0, 15), x = num(0, 2); due(say("tide", t, x), nets.tide(t, x), plain.tide(t, x)); break; }
            case 7: { int what = num(0, 1), x = num(0, 16); due(say("set", what, x), nets.set(what, x), plain.set(what, x)); break; }
            case 8: due("anew()", nets.anew(), plain.anew()); break;
            case 9: { long e = chance.nextLong(); int n = num(1, 8); due(say("feed", e, n), nets.feed(e, n), plain.feed(e, n)); break; }
            case 10: due("rules()", nets.rules(), plain.rules()); break;
            case 11: due("turn()", nets.turn(), plain.turn()); break;
            default: due("lot()", nets.lot(), plain.lot()); break;
        }
    }

    private void callPlans(int which) {
        int a = v(), n = num(0, 4), set = num(0, (1 << nets.many(0)) - 1);
        switch (which) {
            case 13: { int t = num(0, 16); due(say("on", t), nets.on(t), plain.on(t)); break; }
            case 14: due(say("when", a), nets.when(a), plain.when(a)); break;
            case 15: due("meshFor()", nets.meshFor(), plain.meshFor()); break;
            case 16: due(say("placeFor", a), nets.placeFor(a), plain.placeFor(a)); break;
            case 17: due("quarrels()", nets.quarrels(), plain.quarrels()); break;
            case 18: { int what = num(-1, 5); due(say("apart", what), nets.apart(what), plain.apart(what)); break; }
            case 19: { int what = num(0, 1); due(say("choir", what), nets.choir(what), plain.choir(what)); break; }
            case 20: due(say("best", n), nets.best(n), plain.best(n)); break;
            case 21: { int i = num(0, 3); due(say("ith", n, i), nets.ith(n, i), plain.ith(n, i)); break; }
            case 22: due(say("ways", n), nets.ways(n), plain.ways(n)); break;
            case 23: due(say("haul", n, set), nets.haul(n, set), plain.haul(n, set)); break;
            case 24: due(say("bars", n, set), nets.bars(n, set), plain.bars(n, set)); break;
            case 25: due(say("game", n), nets.game(n), plain.game(n)); break;
            case 26: due(say("play", n), nets.play(n), plain.play(n)); break;
            case 27: due(say("prove", n), nets.prove(n), plain.prove(n)); break;
            case 28: {
                int k = num(0, 3), what = num(0, 2), x = num(0, 7);
                due(say("alterRow", k, what, x), nets.alterRow(k, what, x), plain.alterRow(k, what, x));
                break;
            }
            default: due("judge()", nets.judge(), plain.judge()); break;
        }
    }

    private void callHost(int which) {
        int s = num(0, 3), i = num(0, 9), sort = num(0, 4);
        switch (which) {
            case 30: case 31: case 32: {
                int k = num(0, 15), from = num(0, 15), to = Math.min(15, from) + chance.nextInt(9) - 1;
                due(say("report", k, from, to), nets.report(k, from, to), plain.report(k, from, to));
                break;
            }
            case 33: if (chance.nextInt(3) == 0) due("forget()", nets.forget(), plain.forget()); break;
            case 34: { int what = num(0, 2); due(say("span", what), nets.span(what), plain.span(what)); break; }
            case 35: due("liar()", nets.liar(), plain.liar()); break;
            case 36: { int z = chance.nextInt(); due(say("seed", z), nets.seed(z), plain.seed(z)); break; }
            case 37: { int n = num(1, 40), x = num(0, chance.nextBoolean() ? 30 : 999); due(say("times", n, x), nets.times(n, x), plain.times(n, x)); break; }
            case 38: { int so = num(-1, 4), n = num(0, 40); due(say("sheet", s, so, n), nets.sheet(s, so, n), plain.sheet(s, so, n)); break; }
            case 39: { int n = num(0, 40); due(say("sheet", s, 0, n), nets.sheet(s, 0, n), plain.sheet(s, 0, n)); break; }
            case 40: { int x = chance.nextInt(); due(say("write", s, i, x), nets.write(s, i, x), plain.write(s, i, x)); break; }
            case 41: { int x = num(0, 6); due(say("write", s, i, x), nets.write(s, i, x), plain.write(s, i, x)); break; }
            case 42: due(say("item", s, sort, i), nets.item(s, sort, i), plain.item(s, sort, i)); break;
            case 43: { int n = num(0, chance.nextInt(3) == 0 ? 20 : 4); due(say("goAll", s, i, n), nets.goAll(s, i, n), plain.goAll(s, i, n)); break; }
            case 44: { int n = num(0, chance.nextInt(3) == 0 ? 20 : 4); due(say("wouldBe", s, i, n), nets.wouldBe(s, i, n), plain.wouldBe(s, i, n)); break; }
            case 45: { int what = num(0, 2), n = num(0, 5); due(say("shelf", s, what, n), nets.shelf(s, what, n), plain.shelf(s, what, n)); break; }
            case 46: { int as = num(0, 14); due(say("taken", s, as), nets.taken(s, as), plain.taken(s, as)); break; }
            case 47: { int act = num(0, 3), x = num(-20, 20); due(say("act", s, act, x), nets.act(s, act, x), plain.act(s, act, x)); break; }
            case 48: if (chance.nextInt(2) == 0) due("keep()", nets.keep(), plain.keep()); break;
            default: if (chance.nextInt(2) == 0) due("again()", nets.again(), plain.again()); break;
        }
    }
}
