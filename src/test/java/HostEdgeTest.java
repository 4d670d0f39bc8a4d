import java.util.ArrayList;
import java.util.List;

/** The boundary cases of "Terms", part 3, that are the host's: ACTS, BODIES, THE TRACE, SHEETS, SHELVES. */
public final class HostEdgeTest extends Edges {
    public static void main(String[] args) throws ReflectiveOperationException {
        runAll(HostEdgeTest.class);
    }

    // ---- BODIES, once more as they stand in the document

    private static final List<Integer> ran = new ArrayList<>();
    private static boolean parted;

    private static int hums(int kind, int n, int a, int x) {
        if (kind == CHILD) ran.add(20);
        if (kind == PRAYER) ran.add(50);
        ran.add(10);
        return (kind == PRAYER ? x - 1 : x) * 3 - n + (kind == CHILD ? 7 : 0);
    }

    private static int calls(int kind, int n, int a, int x) {
        if (kind == QUARREL || kind == PRAYER) ran.add(30);
        if (kind == GULL) ran.add(60);
        ran.add(11);
        int sum = hums(kind, n, a, x) + a;
        return kind == QUARREL || kind == PRAYER ? -sum : kind == GULL ? sum ^ 9 : sum;
    }

    private static int parts(int kind, int n, int a, int x) {
        if (kind == GULL) ran.add(61);
        if (kind == GULL || kind == FOGHORN) ran.add(40);
        ran.add(12);
        if (n == a) {
            parted = true;
            return 0;
        }
        int part = (int) ((long) x / (n - a));
        if (kind == FOGHORN) return part * a;
        return kind == GULL ? part * a + hums(kind, n, a, a) : part;
    }

    private static int rings(int kind, int n, int a, int x) {
        if (kind == PRAYER) ran.add(51);
        ran.add(13);
        int first = calls(kind, n, a, x);
        int ring = first ^ parts(kind, n, a, x);
        return kind == PRAYER && !parted ? ring + calls(kind, n, a, n) : ring;
    }

    private static int act(int act, int kind, int n, int a, int x) {
        ran.clear();
        parted = false;
        int answer = act == 0 ? hums(kind, n, a, x) : act == 1 ? calls(kind, n, a, x)
            : act == 2 ? parts(kind, n, a, x) : rings(kind, n, a, x);
        return parted ? -15 : answer;
    }

    private static VoiceNets shelved(int kind, int n, int a) {
        VoiceNets x = bare();
        for (int i = 0; i < 6; i++) x.voice(i == n ? kind : CHILD, 0, a, 0);
        x.shelf(0, 0, n);
        return x;
    }

    @Sentence("with a number x (ints that wrap); n: its number, a: its STRENGTH")
    static void a1Bodies() {
        int[] xs = {0, 1, -1, 5, -5, 715827882, 715827883, -715827883, HIGH, HIGH - 1, LOW, LOW + 1, 1 << 30};
        for (int kind = 1; kind <= 5; kind++) {
            for (int n = 0; n < 6; n++) {
                for (int a = 1; a <= 9; a++) {
                    VoiceNets v = shelved(kind, n, a);
                    for (int i = 0; i < 4 * xs.length; i++) {
                        int act = i % 4;
                        int x = xs[i / 4];
                        due("act " + act + " of a " + KINDS[kind] + ", n " + n + ", a " + a + ", x " + x, v.act(0, act, x), act(act, kind, n, a, x));
                    }
                }
            }
        }
    }

    @Sentence("THE TRACE: numbers of the bodies that ran in the latest act(), as they began (left first)")
    static void a2Trace() {
        for (int kind = 1; kind <= 5; kind++) {
            for (int act = 0; act < 4; act++) {
                for (int a = 2; a <= 4; a++) {
                    VoiceNets v = shelved(kind, 3, a);
                    v.act(0, 3, 1);
                    v.act(0, act, 100);
                    act(act, kind, 3, a, 100);
                    due("bodies of " + act, v.many(6), ran.size());
                    for (int i = 0; i < ran.size(); i++) due("body " + i, v.trace(i), ran.get(i));
                    due("none ahead", v.trace(-1), NONE);
                    due("none behind", v.trace(ran.size()), NONE);
                }
            }
        }
        due("none at first", bare().many(6), 0);
        due("none at first", bare().trace(0), NONE);
    }

    @Sentence("the first 30 are kept")
    static void a3Thirty() {
        // one act() has eleven at most; those of the acts ahead of it aren't counted with it
        VoiceNets v = shelved(PRAYER, 3, 1);
        for (int i = 0; i < 20; i++) {
            v.act(0, 3, i);
            due("eleven", v.many(6), 11);
            due("the last", v.trace(10), 10);
            due("none behind it", v.trace(11), NONE);
            due("none at 29", v.trace(29), NONE);
            due("none at 30", v.trace(30), NONE);
        }
    }

    @Sentence("-15 if these are the same; that is all that act() answers then")
    static void a4PartedByNothing() {
        for (int kind = 1; kind <= 5; kind++) {
            for (int n = 0; n < 6; n++) {
                for (int a = 1; a <= 9; a++) {
                    VoiceNets v = shelved(kind, n, a);
                    for (int x : new int[] {0, 7, HIGH, LOW}) {
                        due("parts", v.act(0, 2, x) == -15 ? 1 : 0, n == a || act(2, kind, n, a, x) == -15 ? 1 : 0);
                        due("rings", v.act(0, 3, x) == -15 ? 1 : 0, n == a || act(3, kind, n, a, x) == -15 ? 1 : 0);
                    }
                    due("hums all the same", v.act(0, 0, 4), act(0, kind, n, a, 4));
                    due("calls all the same", v.act(0, 1, 4), act(1, kind, n, a, 4));
                }
            }
        }
    }

    // ---- SHEETS

    @Sentence("SHEETS 0 to 3 are rows .. 40 at most, or missing (at first)")
    static void b1Sheets() {
        for (int s = 0; s < 4; s++) {
            VoiceNets x = bare();
            for (int sort = 0; sort < 5; sort++) due("missing at first", x.item(s, sort, 0), -11);
            due("nothing to write to", x.write(s, 0, 1), -11);
            for (int n : new int[] {0, 1, 39, 40}) {
                for (int sort = 0; sort < 5; sort++) {
                    due("a row of " + n, x.sheet(s, sort, n), 1);
                    due("the last of " + n, x.item(s, sort, n - 1), n == 0 ? -12 : 0);
                    due("one behind it", x.item(s, sort, n), -12);
                    due("one ahead of all", x.item(s, sort, -1), -12);
                    due("write the last", x.write(s, n - 1, 1), n == 0 ? -12 : 1);
                    due("it is", x.item(s, sort, n - 1), n == 0 ? -12 : 1);
                    due("write behind it", x.write(s, n, 1), -12);
                }
            }
            due("missing again", x.sheet(s, -1, 0), 1);
            due("nothing", x.item(s, 0, 0), -11);
        }
    }

    @Sentence("all 0")
    static void b2AllZero() {
        for (int sort = 0; sort < 5; sort++) {
            VoiceNets x = bare();
            x.sheet(2, sort, 40);
            for (int i = 0; i < 40; i++) x.write(2, i, 1 + i);
            x.sheet(2, sort, 20);
            for (int i = 0; i < 40; i++) due("item " + i + " of 20", x.item(2, sort, i), i < 20 ? 0 : -12);
            x.sheet(2, -1, 0);
            x.sheet(2, sort, 40);
            for (int i = 0; i < 40; i++) due("item " + i + " of 40", x.item(2, sort, i), 0);
        }
    }

    @Sentence("each SHEET is its own")
    static void b3EachItsOwn() {
        VoiceNets x = bare();
        for (int s = 0; s < 4; s++) x.sheet(s, s, 3);
        for (int s = 0; s < 4; s++) for (int i = 0; i < 3; i++) x.write(s, i, 10 * s + i);
        for (int s = 0; s < 4; s++) for (int i = 0; i < 3; i++) due("item " + i + " of " + s, x.item(s, s, i), 10 * s + i);
    }

    @Sentence("bytes (sort 0), shorts (1), ints (2), longs (3) or booleans (4)")
    static void b4Narrowed() {
        int[] vs = {0, 1, -1, 127, 128, 129, -128, -129, 255, 256, 257, 32767, 32768, 32769, -32768, -32769, 65535, 65536,
            1 << 24, HIGH, LOW, LOW + 1, 0x12345678, -12, -13, -9};
        for (int sort = 0; sort < 5; sort++) {
            VoiceNets x = bare();
            x.sheet(1, sort, vs.length);
            for (int i = 0; i < vs.length; i++) due("write " + vs[i], x.write(1, i, vs[i]), 1);
            for (int i = 0; i < vs.length; i++) {
                long v = vs[i];
                long wide = sort == 0 ? 256 : sort == 1 ? 65536 : 1L << 32;
                long is = sort == 4 ? (v == 0 ? 0 : 1) : Math.floorMod(v + wide / 2, wide) - wide / 2;
                due(v + " in sort " + sort, x.item(1, sort, i), (int) is);
            }
        }
    }

    // ---- SHELVES

    @Sentence("SHELVES 0 to 3 hold .. nothing (at first)")
    static void c1Shelves() {
        for (int s = 0; s < 4; s++) {
            VoiceNets x = gulls(4);
            for (int as = 0; as < 15; as = as == 5 ? 10 : as + 1) due("nothing at first", x.taken(s, as), -11);
            due("no ACT of nothing", x.act(s, 0, 1), 0);
            for (int u = 0; u < 4; u++) x.shelf(u, 0, u);
            due("nothing again", x.shelf(s, 2, 0), 1);
            for (int u = 0; u < 4; u++) due("SHELF " + u, x.taken(u, 0), u == s ? -11 : u);
        }
    }

    @Sentence("SHELVES hold a VOICE (by its number; nothing, if there is no such one at the time)")
    static void c2Voices() {
        VoiceNets x = bare();
        x.keep();
        for (int v = 0; v < 6; v++) x.voice(1 + v % 5, 0, 9 - v, 0);
        for (int s = 0; s < 4; s++) {
            for (int v = 0; v < 6; v++) {
                due("a VOICE", x.shelf(s, 0, v), 1);
                due("it is held", x.taken(s, 0), v);
            }
        }
        x.remake(5, GULL);
        due("as it is now", x.taken(0, GULL), 5);
        x.change(5, 2, 1);
        due("with its STRENGTH now", x.act(0, 1, 3), (3 * 3 - 5 + 1) ^ 9);
        x.again();
        for (int s = 0; s < 4; s++) {
            due("none at the time", x.taken(s, 0), -11);
            due("taken for a row", x.taken(s, 12), -11);
            due("no ACT of it", x.act(s, 0, 1), 0);
        }
        for (int v = 0; v < 5; v++) x.voice(CHILD, 0, 1, 0);
        due("still none", x.taken(0, 0), -11);
        x.voice(QUARREL, 0, 2, 0);
        due("there is one of that number", x.taken(0, QUARREL), 5);
        due("and it acts", x.act(0, 0, 3), 4);
    }

    @Sentence("SHELVES hold .. a SHEET's row")
    static void c3Rows() {
        VoiceNets x = bare();
        for (int n : new int[] {0, 1, 40}) {
            for (int sort = 0; sort < 5; sort++) {
                x.sheet(2, sort, n);
                due("a row", x.shelf(1, 1, 2), 1);
                for (int as = 10; as < 15; as++) due("taken for sort " + (as - 10), x.taken(1, as), as - 10 == sort ? n : -13);
                for (int as = 0; as < 6; as++) due("taken for a " + KINDS[as], x.taken(1, as), -13);
                due("no ACT of a row", x.act(1, 0, 1), 0);
            }
        }
        due("missing", x.sheet(2, -1, 5), 1);
        due("the row is held yet", x.taken(1, 14), 40);
        due("the missing one", x.shelf(1, 1, 2), 1);
        due("is nothing", x.taken(1, 14), -11);
        due("never made", x.shelf(1, 1, 3), 1);
        due("is nothing", x.taken(1, 10), -11);
    }
}
