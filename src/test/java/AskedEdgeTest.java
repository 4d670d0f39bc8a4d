/** The boundary cases of "Terms", part 3, but for the host's: THE REST, nets apart, PLANS, GAMES, REPORTS, LOTS, ROWS. */
public final class AskedEdgeTest extends Edges {
    public static void main(String[] args) throws ReflectiveOperationException {
        runAll(AskedEdgeTest.class);
    }

    /** WORTH 1 for each net that is CAST for it. */
    private static VoiceNets freed(int end, int turns) {
        VoiceNets x = still();
        x.voice(GULL, 0, 9, 8);
        tell(x, "gull free;");
        for (int t = 0; t < turns; t++) go(x, 0);
        x.set(0, end);
        return x;
    }

    private static VoiceNets caught(VoiceNets x, int set) {
        for (int v = 0; v < 6; v++) if ((set >> v & 1) == 1) x.change(v, 4, 1);
        return x;
    }

    private static VoiceNets pitched(int... pitch) {
        VoiceNets x = bare();
        for (int p : pitch) x.voice(GULL, p, 1, 0);
        return x;
    }

    private static int power(int base, int n) {
        int all = 1;
        for (int i = 0; i < n; i++) all *= base;
        return all;
    }

    @Sentence("What is asked changes nothing, if not told")
    static void a1Asked() {
        for (Maker m : new Maker[] {Edges::rich, Edges::full, Edges::over}) {
            VoiceNets x = m.make();
            for (int v = 0; v < 6; v++) {
                x.when(v);
                x.placeFor(v);
            }
            x.meshFor();
            for (int n = 0; n <= 16; n++) x.on(n);
            x.quarrels();
            for (int what = -1; what < 6; what++) x.apart(what);
            for (int what = 0; what < 2; what++) x.choir(what);
            unchanged(m, "THE REST, APART, CHOIR", x);
            x = m.make();
            for (int n = 0; n <= 4; n++) {
                x.best(n);
                x.ways(n);
                for (int i = 0; i < 4; i++) x.ith(n, i);
                x.haul(n, 31);
                x.bars(n, 31);
                x.game(n);
                x.play(n);
            }
            unchanged(m, "PLANS and GAMES", x);
            x = m.make();
            for (int what = 0; what < 3; what++) x.span(what);
            x.liar();
            for (int n = 1; n <= 40; n++) x.times(n, 5);
            for (int k = 0; k < 4; k++) x.row(k, k % 3);
            x.judge();
            for (int i = 0; i < 4; i++) x.item(0, 0, i);
            for (int n = 0; n <= 4; n++) x.wouldBe(0, 0, n);
            for (int as = 0; as < 15; as++) x.taken(0, as);
            for (int i = 0; i < 12; i++) x.trace(i);
            unchanged(m, "the others", x);
        }
        VoiceNets x = rich();
        x.on(16);
        x.best(4);
        x.game(4);
        x.times(40, 1);
        x.prove(4);
        int[] state = {1, 9, 18, 0, 3, 1};
        for (int what = 0; what < 6; what++) due("state(" + what + ")", x.state(what), state[what]);
        int[] place = {5, 6, 10, 7, 3};
        for (int v = 0; v < 5; v++) due("PLACE of " + v, x.voiceOf(v, 3), place[v]);
    }

    // ---- THE REST

    @Sentence("THE REST: all TURNS yet")
    static void b1Rest() {
        for (int end = 1; end <= 16; end++) {
            for (int t = 0; t <= end; t++) {
                VoiceNets x = freed(end, t);
                for (int n = 0; n <= 16; n++) due(n + " of THE REST from " + t + " to " + end, x.on(n), Math.min(n, end - t));
            }
        }
    }

    @Sentence("the net being CAST in each for the least VOICE at sea (none, if there is none)")
    static void b2Least() {
        due("no VOICE", still().on(16), 0);
        due("no VOICE, a TURN", still().turn(), 0);
        for (int set = 0; set < 64; set++) {
            VoiceNets x = caught(gulls(6), set);
            tell(x, "gull salt;");
            int atSea = 6 - Integer.bitCount(set);
            due("THE REST with " + set + " CAUGHT", x.on(16), 3 * atSea);
            due("one TURN", x.on(1), atSea > 0 ? 3 : 0);
            int turn = 0;
            for (int v = 0; v < 6; v++) due("when " + v, x.when(v), (set >> v & 1) == 1 ? NONE : turn++);
            due("the TURN", x.turn(), atSea > 0 ? 3 : 0);
            int least = Integer.lowestOneBit(~set & 63);
            due("those CAUGHT", x.state(4), set | least);
        }
    }

    // ---- quarrels

    @Sentence("Two VOICES QUARREL, if their PITCHES are alike, or one apart (at sea or not)")
    static void c1Quarrels() {
        for (int p = 0; p <= 9; p++) {
            for (int q = 0; q <= 9; q++) {
                VoiceNets x = pitched(p, q);
                int due = Math.abs(p - q) <= 1 ? 1 : 0;
                for (int set = 0; set < 4; set++) {
                    caught(x, set);
                    due(p + " and " + q, x.quarrels(), due);
                    due("nets for " + p + " and " + q, x.apart(-1), 1 + due);
                    due("the first", x.apart(0), 0);
                    due("the second", x.apart(1), due);
                    due("the CHOIR of " + p + " and " + q, x.choir(0), due == 1 ? 1 : 3);
                }
            }
        }
    }

    @Sentence("APART: the fewest nets into which all VOICES can be put so that no two in one QUARREL")
    static void c2Apart() {
        due("no VOICES, no nets", bare().apart(-1), 0);
        for (int n = 1; n <= 6; n++) {
            int[] alike = new int[n];
            VoiceNets x = pitched(alike);
            due(n + " alike", x.apart(-1), n);
            for (int v = 0; v < n; v++) due("the net of " + v, x.apart(v), v);
            due("no such VOICE", x.apart(n), BAD);
        }
        VoiceNets y = pitched(8, 6, 4, 2, 0);
        due("five, none of which QUARREL", y.apart(-1), 1);
        for (int v = 0; v < 5; v++) due("all in net 0", y.apart(v), 0);
        due("rows of three alike", pitched(0, 0, 0, 9, 9, 9).apart(-1), 3);
        due("3 4 5: in pairs", pitched(3, 4, 5).apart(-1), 2);
        due("3 3 4: all", pitched(3, 3, 4).apart(-1), 3);
    }

    @Sentence("of several such rows the FIRST: by numbers each is in the least net, from 0 on, where they are unlike first")
    static void c3First() {
        int[][] pitches = {{1, 4, 2, 3}, {2, 4, 6, 3, 5}, {0, 0, 0, 9, 9, 9}, {3, 4, 5, 6, 7, 8}, {0, 2, 1}, {1, 9, 0, 8, 2, 7}};
        int[][] rows = {{0, 1, 1, 0}, {0, 0, 0, 1, 1}, {0, 1, 2, 0, 1, 2}, {0, 1, 0, 1, 0, 1}, {0, 0, 1}, {0, 0, 1, 1, 1, 0}};
        int[] nets = {2, 2, 3, 2, 2, 2};
        for (int i = 0; i < pitches.length; i++) {
            VoiceNets x = pitched(pitches[i]);
            due("nets of row " + i, x.apart(-1), nets[i]);
            for (int v = 0; v < rows[i].length; v++) due("row " + i + ", VOICE " + v, x.apart(v), rows[i][v]);
        }
    }

    @Sentence("CHOIR: the set of VOICES, no two of which QUARREL, with most STRENGTH together; of several the least")
    static void c4Choir() {
        due("none", bare().choir(0), 0);
        due("none", bare().choir(1), 0);
        VoiceNets five = pitched(8, 6, 4, 2, 0);
        due("all", five.choir(0), 31);
        due("all", five.choir(1), 5);
        VoiceNets alike = pitched(5, 5, 5, 5, 5, 5);
        due("one of six alike: the least", alike.choir(0), 1);
        alike.change(5, 2, 2);
        due("the last is louder", alike.choir(0), 32);
        due("its STRENGTH", alike.choir(1), 2);
        // 3, 4, 5, the middle as strong as both sides: the set 5 is more than the set 2
        VoiceNets x = pitched(3, 4, 5);
        x.change(1, 2, 2);
        due("2 is less than 5", x.choir(0), 2);
        x.change(0, 2, 2);
        due("both sides", x.choir(0), 5);
        due("both sides together", x.choir(1), 3);
        VoiceNets y = pitched(0, 2, 4, 6, 8, 9);
        for (int v = 0; v < 6; v++) y.change(v, 2, 9);
        due("five of six", y.choir(0), 31);
        due("most STRENGTH of all", y.choir(1), 45);
        due("CAUGHT or not", caught(y, 63).choir(0), 31);
    }

    // ---- plans

    @Sentence("A PLAN of n: n TURNS (fewer, if it is OVER), ahead of each an ACT: 0 no net, or 1 more than the number of the VOICE")
    static void d1Plans() {
        for (int left = 0; left <= 6; left++) {
            for (int count = 0; count <= 6; count++) {
                // all are CAUGHT: all PLANS are alike
                VoiceNets x = caught(gulls(count), 63);
                for (int t = 0; t < 10; t++) go(x, 0);
                x.set(0, 10 + left);
                for (int n = 0; n <= 4; n++) {
                    int turns = Math.min(n, left);
                    due("PLANS of " + n + ", " + left + " left, " + count + " VOICES", x.ways(n), power(count + 1, turns));
                    due("WORTH", x.best(n), 0);
                    for (int i = 0; i < 4; i++) due("the FIRST's ACT " + i, x.ith(n, i), i < turns ? 0 : NONE);
                    due("ROWS", x.prove(n), turns);
                }
            }
        }
    }

    @Sentence("BEST: those with most WORTH; the FIRST of these is that with the lesser ACT where they are unlike first")
    static void d2Best() {
        for (int count = 1; count <= 6; count++) {
            VoiceNets x = gulls(count);
            tell(x, "gull salt;");
            for (int n = 0; n <= 4; n++) {
                int casts = Math.min(n, count);
                due("BEST of " + n, x.best(n), 3 * casts);
                // each another one, in any order; the last TURNS with any ACT when all are CAUGHT
                int ways = 1;
                for (int i = 0; i < n && n <= count; i++) ways *= count - i;
                if (n <= count) due("ways of " + n + " with " + count, x.ways(n), ways);
                for (int i = 0; i < n && n <= count; i++) due("ACT " + i, x.ith(n, i), i + 1);
                if (n > count) due("with room: ACT 0", x.ith(n, 0), 0);
            }
        }
        VoiceNets last = gulls(6);
        tell(last, "gull if number = 5 free;");
        for (int i = 0; i < 4; i++) due("the last VOICE in each", last.ith(4, i), 6);
        due("one way", last.ways(4), 1);
        due("WORTH 4", last.best(4), 4);
    }

    @Sentence("HAUL by n, a set of VOICES: the fewest ACTS that aren't 0 in a PLAN of n behind which each of them is CAUGHT")
    static void d3Haul() {
        for (int set = 0; set < 64; set++) {
            VoiceNets x = gulls(6);
            int bits = Integer.bitCount(set);
            for (int n = 0; n <= 4; n++) {
                due("HAUL by " + n + " of " + set, x.haul(n, set), bits <= n ? bits : NONE);
                due("those who bar it", x.bars(n, set), n > 0 || set == 0 ? NONE : Integer.numberOfTrailingZeros(set));
            }
            caught(x, set);
            due("CAUGHT now", x.haul(0, set), 0);
            due("CAUGHT now, none bars", x.bars(0, set), NONE);
        }
        VoiceNets two = gulls(6);
        for (int v = 0; v < 6; v++) two.change(v, 3, v / 2 * 4);
        due("two in one net: all by 3", two.haul(3, 63), 3);
        due("not by 2", two.haul(2, 63), NONE);
        due("and by 4", two.haul(4, 63), 3);
        due("OVER", caught(over(), 3).haul(4, 3), 0);
        due("OVER", over().haul(4, 4), NONE);
    }

    @Sentence("BAR: the least of them that is so behind no PLAN of n")
    static void d4Bar() {
        for (int barred = 0; barred < 64; barred++) {
            VoiceNets x = gulls(6);
            for (int v = 0; v < 6; v++) {
                x.change(v, 2, (barred >> v & 1) == 1 ? 1 : 2);
            }
            x.set(1, 1);
            int least = barred == 0 ? NONE : Integer.numberOfTrailingZeros(barred);
            due("of all, " + barred + " slip through", x.bars(1, 63), least);
            due("of these", x.bars(4, barred), least);
            due("of the others", x.bars(4, 63 & ~barred), NONE);
            due("of none", x.bars(4, 0), NONE);
            due("OVER: HAUL is none, but for nothing", x.haul(4, barred), barred == 0 ? 0 : NONE);
        }
    }

    /** Behind each PLAN of n TURNS, in their order, as goAll() does it: WORTH, those CAUGHT, nets. */
    private static int[][] tried(Maker m, int n) {
        int base = m.make().many(0) + 1;
        int[][] plans = new int[power(base, n)][3];
        for (int p = 0; p < plans.length; p++) {
            VoiceNets x = m.make();
            x.sheet(2, 0, n);
            for (int i = n - 1, left = p; i >= 0; i--, left /= base) {
                x.write(2, i, left % base);
                if (left % base != 0) plans[p][2]++;
            }
            int would = x.wouldBe(2, 0, n);
            plans[p][0] = x.goAll(2, 0, n);
            plans[p][1] = x.state(4);
            due("what it would be WORTH", would, plans[p][0]);
        }
        return plans;
    }

    /** A prayer and gulls drift to a child and a foghorn, where TIDES turn; what is held there, and told of, changes by TURNS. */
    private static VoiceNets moving() {
        VoiceNets x = bare();
        x.voice(PRAYER, 3, 7, 2);
        x.voice(GULL, 4, 4, 0);
        x.voice(FOGHORN, 8, 8, 9);
        x.voice(CHILD, 0, 3, 5);
        x.voice(QUARREL, 6, 9, 8);
        x.tide(2, 2);
        x.tide(4, 2);
        tell(x, "gull salt; child if turn < 2 free; quarrel if place > 9 and not turn = 3 salt;");
        return x;
    }

    private static VoiceNets movingLast() {
        VoiceNets x = moving();
        x.turn();
        x.set(0, 3);
        return x;
    }

    /** Six that are far from one another, slow, and dearer by and by. */
    private static VoiceNets apart() {
        VoiceNets x = still();
        for (int v = 0; v < 6; v++) x.voice(v % 2 == 0 ? CHILD : PRAYER, v, 2 + v, 3 * v);
        for (int t = 1; t < 16; t += 2) x.tide(t, 1 + t / 2 % 2);
        x.set(1, 3);
        tell(x, "prayer if turn < 2 free; child if turn = 1 or number = 4 and turn < 3 free; child if turn = 2 salt;");
        return x;
    }

    private static final Maker[] MOVING = {Edges::rich, Edges::over, AskedEdgeTest::moving, AskedEdgeTest::movingLast,
        AskedEdgeTest::apart};

    @Sentence("Its WORTH: of these TURNS together")
    static void d5AsTheyGo() {
        for (Maker m : MOVING) {
            VoiceNets asked = m.make();
            int base = asked.many(0) + 1;
            for (int n = 4; n >= 0; n--) {
                int length = Math.max(0, Math.min(n, asked.state(1) - asked.state(0)));
                int[][] plans = tried(m, length);
                int first = 0;
                int ways = 0;
                for (int p = 0; p < plans.length; p++) if (plans[p][0] > plans[first][0]) first = p;
                for (int[] plan : plans) if (plan[0] == plans[first][0]) ways++;
                due("BEST of " + n, asked.best(n), plans[first][0]);
                due("ways of " + n, asked.ways(n), ways);
                for (int i = 0; i < 4; i++) {
                    due("ACT " + i, asked.ith(n, i), i < length ? first / power(base, length - 1 - i) % base : NONE);
                }
                due("ROWS", asked.prove(n), length);
                due("are right", asked.judge(), 0);
                for (int set = 0; set < 1 << base - 1; set += 3) nets(asked, n, set, plans);
            }
        }
    }

    private static void nets(VoiceNets asked, int n, int set, int[][] plans) {
        int fewest = 99;
        int ever = 0;
        for (int[] plan : plans) {
            if ((plan[1] & set) == set) fewest = Math.min(fewest, plan[2]);
            ever |= plan[1];
        }
        due("HAUL by " + n + " of " + set, asked.haul(n, set), fewest == 99 ? NONE : fewest);
        int barred = set & ~ever;
        due("BAR by " + n + " of " + set, asked.bars(n, set), barred == 0 ? NONE : Integer.numberOfTrailingZeros(barred));
    }

    // ---- the game

    @Sentence("GAME of n: two in turn, ahead of n TURNS (till it is OVER) each an ACT (also 0)")
    static void e1Game() {
        for (int left = 0; left <= 5; left++) {
            VoiceNets x = freed(10 + left, 10);
            for (int n = 1; n <= 4; n++) {
                int turns = Math.min(n, left);
                due("the first casts, the other doesn't: " + n + ", " + left + " left", x.game(n), (turns + 1) / 2);
                due("the ACT", x.play(n), turns == 0 ? NONE : 1);
            }
        }
        for (int n = 1; n <= 4; n++) {
            due("no VOICES", still().game(n), 0);
            due("no VOICES: ACT 0", still().play(n), 0);
            due("all are CAUGHT", caught(gulls(6), 63).game(n), 0);
            due("all are CAUGHT: ACT 0", caught(gulls(6), 63).play(n), 0);
        }
    }

    @Sentence("VALUE: that, if both play as well as they can")
    static void e2Value() {
        // what the other one must choose among: to salt it for 12 now, or to leave it for 18
        VoiceNets x = still();
        x.voice(CHILD, 0, 9, 0);
        tell(x, "child if turn = 0 free; child if turn = 1 salt;");
        int[] value = {1, 1, 13, 13};
        for (int n = 1; n <= 4; n++) {
            due("VALUE of " + n, x.game(n), value[n - 1]);
            due("ACT of " + n, x.play(n), 1);
        }
        VoiceNets later = still();
        later.voice(CHILD, 0, 9, 0);
        tell(later, "child if turn < 2 free;");
        int[] then = {1, 1, 19, 19};
        for (int n = 1; n <= 4; n++) due("the other one can't but wait: VALUE of " + n, later.game(n), then[n - 1]);
        VoiceNets six = gulls(6);
        for (int v = 0; v < 6; v++) six.remake(v, CHILD);
        due("18, then nothing", six.game(2), 18);
        due("18 and 18", six.game(4), 36);
        due("the least ACT of six alike", six.play(4), 1);
        six.change(0, 2, 8);
        due("the least but the slighter one", six.play(4), 2);
    }

    @Sentence("the first one wants as much WORTH as can be, the other one as little")
    static void e3AsTheyGo() {
        for (Maker m : MOVING) {
            VoiceNets asked = m.make();
            int base = asked.many(0) + 1;
            for (int n = 1; n <= 4; n++) {
                int length = Math.max(0, Math.min(n, asked.state(1) - asked.state(0)));
                int[][] plans = tried(m, length);
                int best = value(plans, 0, plans.length, base, true);
                due("VALUE of " + n, asked.game(n), best);
                int act = 0;
                int part = plans.length / base;
                while (length > 0 && value(plans, act * part, part, base, false) != best) act++;
                due("the ACT of " + n, asked.play(n), length == 0 ? NONE : act);
            }
        }
    }

    private static int value(int[][] plans, int from, int count, int base, boolean more) {
        if (count == 1) return plans[from][0];
        int part = count / base;
        int value = value(plans, from, part, base, !more);
        for (int act = 1; act < base; act++) {
            int other = value(plans, from + act * part, part, base, !more);
            value = more ? Math.max(value, other) : Math.min(value, other);
        }
        return value;
    }

    // ---- strange voices

    @Sentence("A REPORT (6 at most): behind k TURNS (0 to 15) at a PLACE from LEAST to MOST (0 to 15)")
    static void f1Reports() {
        VoiceNets x = bare();
        for (int r = 0; r < 6; r++) due("its number", x.report(15, 0, 15), r);
        due("the seventh", x.report(15, 0, 15), FULL);
        due("six", x.many(3), 6);
        due("such as tell nothing", x.span(0), 80);
        refused(Edges::full, FULL, "the seventh", y -> y.report(0, 0, 0));
        for (int least = 0; least <= 15; least++) {
            for (int most = 0; most <= 15; most++) {
                VoiceNets y = bare();
                due(least + " to " + most, y.report(0, least, most), least <= most ? 0 : BAD);
                due("that FIT: each KIND at each PLACE", y.span(0), least <= most ? 5 * (most - least + 1) : 80);
                due("the least PLACE", y.span(2), least <= most ? least : 0);
            }
        }
    }

    @Sentence("was behind k TURNS at a PLACE .., by TIDES as they are")
    static void f2Behind() {
        for (int k = 0; k <= 15; k++) {
            // ebb in TURN k - 1 alone: the last that counts; a gull goes 2, a foghorn 0
            VoiceNets x = still();
            if (k > 0) x.tide(k - 1, 2);
            x.report(k, 15, 15);
            // the foghorn, and a prayer, where it waits: k - 1 is odd
            int fit = k == 0 ? 5 : k % 2 == 0 ? 2 : 1;
            due("at 15 behind " + k, x.span(0), fit);
            x.forget();
            x.report(k, 0, 0);
            due("at 0 behind " + k, x.span(0), k == 0 ? 5 : 3 * 3 + 1 + (k % 2 == 0 ? 1 : 3));
            x.tide(k, 2);
            due("what TURN " + k + " does comes later", x.span(0), k == 0 ? 5 : 3 * 3 + 1 + (k % 2 == 0 ? 1 : 3));
            if (k > 0) x.tide(k - 1, 1);
            due("at flood none comes to 0 but what is still", x.span(0), k == 0 ? 5 : k % 2 == 0 ? 2 : 1);
            x.set(0, 1);
            x.turn();
            due("whatever END and TURN are", x.span(0), k == 0 ? 5 : k % 2 == 0 ? 2 : 1);
        }
    }

    @Sentence("A STRANGE VOICE is a KIND (1 to 5; STRENGTH 6) and a PLACE at first (0 to 15)")
    static void f3Strange() {
        due("all", bare().span(0), 80);
        due("the least KIND", bare().span(1), 1);
        due("the least PLACE", bare().span(2), 0);
        for (int p = 0; p <= 15; p++) {
            VoiceNets x = bare();
            x.report(0, p, p);
            due("a PLACE", x.span(0), 5);
            due("it is", x.span(2), p);
        }
        VoiceNets s = bare();
        s.report(0, 0, 0);
        s.report(1, 2, 2);
        due("child, quarrel, prayer, gull go 2: STRENGTH is above 5", s.span(0), 4);
        s.report(2, 2, 2);
        due("a prayer", s.span(1), PRAYER);
        VoiceNets g = bare();
        g.report(0, 15, 15);
        for (int k = 1; k < 6; k++) g.report(k, 15, 15);
        due("held to 15", g.span(0), 5);
        VoiceNets last = bare();
        for (int t = 0; t < 16; t++) last.tide(t, 2);
        last.report(0, 15, 15);
        last.report(7, 1, 1);
        due("14 less", last.span(0), 3);
        last.report(8, 0, 0);
        due("held to 0", last.span(0), 3);
        due("with the least KIND", last.span(1), CHILD);
    }

    @Sentence("LIAR: if none FITS, the least REPORT but for which some would")
    static void f4Liar() {
        VoiceNets x = bare();
        due("no REPORT", x.liar(), NONE);
        for (int r = 0; r < 6; r++) {
            VoiceNets y = bare();
            for (int i = 0; i < 6; i++) y.report(0, i == r ? 9 : 3, i == r ? 9 : 3);
            due("the one of six", y.liar(), r);
            due("none FITS", y.span(0), 0);
        }
        x.report(0, 3, 3);
        due("one that FITS", x.liar(), NONE);
        x.report(0, 4, 4);
        due("either one: the least", x.liar(), 0);
        VoiceNets back = bare();
        back.report(0, 4, 4);
        back.report(0, 3, 3);
        due("whichever is told first", back.liar(), 0);
        x.report(0, 4, 5);
        due("the first alone", x.liar(), 0);
        x.report(0, 3, 3);
        due("two against two", x.liar(), NONE);
        VoiceNets alone = bare();
        for (int t = 0; t < 16; t++) alone.tide(t, 2);
        alone.report(15, 15, 15);
        due("a foghorn FITS", alone.span(0), 1);
        alone.report(0, 0, 14);
        due("but not that: the least", alone.liar(), 0);
    }

    // ---- lots

    @Sentence("LOT: z (an int; 1 at first) becomes z * 1103515245 + 12345; the ACT .. is what z >>> 16 leaves by how many VOICES there are and 1")
    static void g1Lot() {
        due("z at first", bare().seed(0), 1);
        int[] seeds = {0, 1, -1, HIGH, LOW, 2, 77, -77, 123456789, -987654321, 65535, 65536};
        for (int seed : seeds) {
            for (int count = 0; count <= 6; count++) {
                VoiceNets x = gulls(count);
                x.seed(seed);
                int z = seed;
                int set = 0;
                for (int t = 0; t < 16; t++) {
                    z = z * 1103515245 + 12345;
                    int act = (int) ((z & 0xffffffffL) / 65536 % (count + 1));
                    if (act > 0) set |= 1 << act - 1;
                    x.lot();
                    due("CAUGHT by " + seed + " among " + count + " in " + t, x.state(4), set);
                }
                due("OVER", x.lot(), STATE);
                due("z stays then", x.seed(1), z);
            }
        }
    }

    // ---- rows

    @Sentence("ROWS of the FIRST of the BEST PLANS: for each TURN (ACT, what it is WORTH, VOICES that are CAUGHT behind it, as a set)")
    static void h1Rows() {
        VoiceNets x = gulls(6);
        tell(x, "gull salt;");
        x.change(1, 4, 1);
        due("ROWS", x.prove(4), 4);
        int[][] rows = {{1, 3, 3}, {3, 3, 7}, {4, 3, 15}, {5, 3, 31}};
        for (int k = 0; k < 4; k++) for (int w = 0; w < 3; w++) due("ROW " + k + ", " + w, x.row(k, w), rows[k][w]);
        for (int n = 0; n < 4; n++) {
            due("ROWS of " + n, x.prove(n), n);
            due("many", x.many(4), n);
            due("none behind the last", x.row(n, 0), -9);
            for (int k = 0; k < n; k++) due("ROW " + k, x.row(k, 0), rows[k][0]);
        }
    }

    @Sentence("THE READER takes ROWS as a PLAN, from how it is now: right is one whose ACT is one, if it isn't OVER, the others as they are then")
    static void h2Reader() {
        for (int k = 0; k < 4; k++) {
            int[][] wrong = {{0, -1}, {0, 7}, {0, LOW}, {0, HIGH}, {0, 256 + k + 1}, {1, 2}, {1, 4}, {1, -3}, {1, 256 + 3},
                {2, 0}, {2, 63}, {2, -1}, {2, 64 | (2 << k) - 1}};
            for (int[] w : wrong) {
                VoiceNets x = proven();
                x.alterRow(k, w[0], w[1]);
                due("ROW " + k + " with " + w[0] + " " + w[1], x.judge(), k + 1);
                if (k > 0) {
                    x.alterRow(k - 1, 1, 99);
                    due("the first that isn't", x.judge(), k);
                }
            }
            VoiceNets x = proven();
            x.set(0, k + 1);
            due("OVER behind ROW " + k, x.judge(), k == 3 ? 0 : k + 2);
        }
        VoiceNets y = proven();
        due("all are right", y.judge(), 0);
        y.alterRow(3, 0, 6);
        y.alterRow(3, 2, 32 + 7);
        due("another PLAN, right as well", y.judge(), 0);
        y.turn();
        due("from how it is now", y.judge(), 1);
        VoiceNets nothing = caught(gulls(6), 63);
        nothing.prove(4);
        due("WORTH nothing, and right", nothing.judge(), 0);
        nothing.alterRow(3, 0, 6);
        due("as right by another ACT", nothing.judge(), 0);
        nothing.alterRow(3, 0, 7);
        due("but not by what is none", nothing.judge(), 4);
        nothing.alterRow(3, 0, -1);
        due("nor by that", nothing.judge(), 4);
        nothing.set(0, 3);
        nothing.alterRow(3, 0, 0);
        due("nor when it is OVER", nothing.judge(), 4);
        VoiceNets none = rich();
        none.prove(0);
        due("no ROWS", none.judge(), 0);
    }

    private static VoiceNets proven() {
        VoiceNets x = gulls(6);
        tell(x, "gull salt;");
        x.prove(4);
        return x;
    }
}
