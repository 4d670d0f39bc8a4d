/** The boundary cases of "Terms", part 1 (TURNS, VOICES, how a TURN goes by), and of what stands ahead of it. */
public final class SeaEdgeTest extends Edges {
    public static void main(String[] args) throws ReflectiveOperationException {
        runAll(SeaEdgeTest.class);
    }

    private static int drift(int kind, int strength, int turn) {
        switch (kind) {
            case CHILD: return 2;
            case QUARREL: return strength >= 6 ? 2 : 1;
            case PRAYER: return turn % 2 == 1 ? 0 : strength >= 6 ? 2 : 1;
            case FOGHORN: return 0;
            default: return 2;
        }
    }

    private static int price(int kind, int strength) {
        switch (kind) {
            case CHILD: return 2 * strength;
            case QUARREL: return strength == 1 ? 0 : strength - 2;
            case PRAYER: return strength == 1 ? 5 : strength + 3;
            case FOGHORN: return 1;
            default: return 0;
        }
    }

    private static boolean bursts(int kind, int strength) {
        return kind == FOGHORN && strength >= 8;
    }

    // ---- ahead of part 1

    @Sentence("Sets are told by bits")
    static void a1Sets() {
        for (int v = 0; v < 6; v++) {
            VoiceNets x = gulls(6);
            x.change(v, 4, 1);
            due("the set of " + v, x.state(4), 1 << v);
        }
        VoiceNets x = gulls(6);
        due("the empty set", x.state(4), 0);
        for (int v = 0; v < 6; v++) x.change(v, 4, 1);
        due("the set of all", x.state(4), 63);
        due("the set of all by 0", x.haul(0, 63), 0);
    }

    @Sentence("Quotients are cut towards 0")
    static void a2Quotients() {
        int[][] is = {{7, 2}, {-7, 2}, {1, 2}, {-1, 2}, {0, 2}, {8, 2}, {-8, 2}, {7, -2}, {-7, -2}, {HIGH, 2}, {LOW, 2}};
        for (int[] of : is) {
            // n - a of a child: 4 - 2 or 1 - 3
            VoiceNets x = gulls(4);
            for (int i = 0; i < 2; i++) x.voice(CHILD, 0, 2, 0);
            x.remake(1, CHILD);
            x.change(1, 2, 3);
            x.shelf(0, 0, of[1] > 0 ? 4 : 1);
            long quotient = (long) of[0] / of[1];
            due(of[0] + " by " + of[1], x.act(0, 2, of[0]), (int) quotient);
        }
        VoiceNets half = still();
        half.voice(QUARREL, 0, 3, 0);
        tell(half, "voice salt;");
        due("half of 1, and 3", half.turn(), 3);
    }

    // ---- TURNS, TIDES, MESH

    @Sentence("END is 1 to 16 (12 at first)")
    static void b1End() {
        due("END at first", bare().state(1), 12);
        for (int e = 1; e <= 16; e++) {
            VoiceNets x = bare();
            due("END becomes " + e, x.set(0, e), 12);
            due("END is", x.state(1), e);
        }
        for (int e : outside(1, 16)) refused(Edges::rich, BAD, "END " + e, x -> x.set(0, e));
    }

    @Sentence("TURN: the one that comes (0 at first); from END on it is OVER")
    static void b2Over() {
        for (int e = 1; e <= 16; e++) {
            VoiceNets x = bare();
            x.set(0, e);
            for (int t = 0; t < e; t++) {
                due("TURN", x.state(0), t);
                due("not OVER ahead of TURN " + t + " of " + e, x.state(3), 0);
                due("a TURN without VOICES", x.turn(), 0);
            }
            due("TURN is END", x.state(0), e);
            due("OVER", x.state(3), 1);
            due("no TURN more", x.turn(), STATE);
            due("nor by LOT", x.lot(), STATE);
            due("TURN is still END", x.state(0), e);
            if (e < 16) {
                x.set(0, e + 1);
                due("not OVER any more", x.state(3), 0);
                due("a TURN more", x.turn(), 0);
                due("and OVER", x.state(3), 1);
            }
        }
        VoiceNets y = bare();
        for (int t = 0; t < 5; t++) y.turn();
        y.set(0, 5);
        due("OVER at once", y.state(3), 1);
    }

    @Sentence("Each of TURNS 0 to 15 has a TIDE: 0 slack, 1 flood (at first), 2 ebb")
    static void b3Tides() {
        int[] place = {8, 10, 6};
        for (int t = 0; t < 16; t++) {
            due("TIDE at first", bare().tideOf(t), 1);
            for (int tide = 0; tide < 3; tide++) {
                VoiceNets x = still();
                x.voice(GULL, 0, 1, 8);
                x.tide(t, tide);
                for (int i = 0; i <= t; i++) go(x, 0);
                due("PLACE behind TURN " + t + " with TIDE " + tide, x.voiceOf(0, 3), place[tide]);
                for (int u = 0; u < 16; u++) due("TIDE of " + u, x.tideOf(u), u == t ? tide : 0);
            }
        }
    }

    @Sentence("MESH: 0 to 9 (2 at first)")
    static void b4Mesh() {
        due("MESH at first", bare().state(5), 2);
        for (int m = 0; m <= 9; m++) {
            VoiceNets x = bare();
            due("MESH becomes " + m, x.set(1, m), 2);
            due("MESH is", x.state(5), m);
        }
        for (int m : outside(0, 9)) refused(Edges::rich, BAD, "MESH " + m, x -> x.set(1, m));
    }

    // ---- VOICES

    @Sentence("VOICES, 6 at most, numbered as they come")
    static void c1Voices() {
        VoiceNets x = bare();
        for (int v = 0; v < 6; v++) {
            due("how many", x.many(0), v);
            due("not yet", x.voiceOf(v, 0), BAD);
            due("the number", x.voice(1 + v % 5, v, v + 1, v), v);
            due("its PITCH", x.voiceOf(v, 1), v);
        }
        due("six", x.many(0), 6);
        due("none is number 6", x.voiceOf(6, 0), BAD);
        refused(Edges::full, FULL, "the seventh", y -> y.voice(1, 1, 1, 1));
    }

    @Sentence("PITCH (0 to 9), STRENGTH (1 to 9), PLACE (0 to 15), CAUGHT or not (at first: it is at sea)")
    static void c2OfAVoice() {
        for (int p = 0; p <= 9; p++) due("PITCH", one(CHILD, p, 1, 0).voiceOf(0, 1), p);
        for (int s = 1; s <= 9; s++) due("STRENGTH", one(CHILD, 0, s, 0).voiceOf(0, 2), s);
        for (int p = 0; p <= 15; p++) due("PLACE", one(CHILD, 0, 1, p).voiceOf(0, 3), p);
        for (int k = 1; k <= 5; k++) due("at sea", one(k, 0, 1, 0).voiceOf(0, 4), 0);
        due("none is CAUGHT", gulls(6).state(4), 0);
        // a place among them that was of one that was CAUGHT, and came to nothing by again()
        VoiceNets x = bare();
        x.keep();
        x.voice(CHILD, 0, 1, 0);
        x.change(0, 4, 1);
        x.again();
        x.voice(CHILD, 0, 1, 0);
        due("at sea, whoever had the number", x.voiceOf(0, 4), 0);
    }

    @Sentence("SCORE: what TURNS were WORTH (0 at first)")
    static void c3Score() {
        due("at first", bare().state(2), 0);
        VoiceNets x = gulls(6);
        for (int v = 0; v < 6; v++) x.remake(v, QUARREL);
        int score = 0;
        for (int v = 0; v < 6; v++) {
            score += x.turn();
            due("SCORE", x.state(2), score);
        }
        due("all six", score, 6 * 7);
        due("nothing more", x.turn(), 0);
        due("SCORE stays", x.state(2), 42);
    }

    @Sentence("KINDS: 0 voice; 1 child, 2 quarrel, 4 foghorn (under voice); 3 prayer (under quarrel); 5 gull (under foghorn)")
    static void c4Kinds() {
        boolean[][] under = new boolean[6][6];
        for (int k = 0; k < 6; k++) under[k][k] = under[k][0] = true;
        under[PRAYER][QUARREL] = under[GULL][FOGHORN] = true;
        for (int k = 1; k < 6; k++) {
            for (int above = 0; above < 6; above++) {
                VoiceNets x = one(k, 0, 1, 0);
                tell(x, KINDS[above] + " free;");
                due("WILL of a " + KINDS[k] + " by a RULE for a " + KINDS[above], x.voiceOf(0, 8), under[k][above] ? 1 : 0);
                x.shelf(0, 0, 0);
                due("taken for a " + KINDS[above], x.taken(0, above), under[k][above] ? 0 : -13);
            }
        }
    }

    @Sentence("DRIFTS: .. quarrel: and 1, if its STRENGTH is above 5. prayer: 0, if the TURN is odd. gull: 2 more than a foghorn")
    static void d1Drifts() {
        for (int k = 1; k <= 5; k++) {
            for (int s = 1; s <= 9; s++) {
                VoiceNets x = one(k, 0, s, 0);
                x.set(0, 16);
                for (int t = 0; t <= 16; t++) {
                    due("a " + KINDS[k] + " of " + s + " in TURN " + t, x.voiceOf(0, 5), drift(k, s, t));
                    go(x, 0);
                }
            }
        }
    }

    @Sentence("PRICE: .. quarrel: that of a voice, less 2 (0 at least). prayer: 5 more than a quarrel. gull: as a foghorn, less 1")
    static void d2Price() {
        for (int k = 1; k <= 5; k++) {
            for (int s = 1; s <= 9; s++) due("a " + KINDS[k] + " of " + s, one(k, 0, s, 0).voiceOf(0, 6), price(k, s));
        }
    }

    @Sentence("BURSTS: a foghorn (no gull), if its STRENGTH is 8 or more")
    static void d3Bursts() {
        for (int k = 1; k <= 5; k++) {
            for (int s = 1; s <= 9; s++) {
                due("a " + KINDS[k] + " of " + s, one(k, 0, s, 0).voiceOf(0, 7), bursts(k, s) ? 1 : 0);
            }
        }
    }

    // ---- a TURN goes by

    @Sentence("PLACE of each VOICE at sea is, at flood, as much as it DRIFTS more, at ebb less (held to 0 to 15)")
    static void e1Places() {
        for (int k = 1; k <= 5; k++) {
            for (int p = 0; p <= 15; p++) {
                for (int t = 0; t < 2; t++) {
                    int d = drift(k, 9, t);
                    due("at flood from " + p, placeBehind(k, p, t, 1, 0), Math.min(15, p + d));
                    due("at ebb from " + p, placeBehind(k, p, t, 2, 0), Math.max(0, p - d));
                    due("slack from " + p, placeBehind(k, p, t, 0, 0), p);
                    due("CAUGHT at " + p, placeBehind(k, p, t, 1 + t, 1), p);
                }
            }
        }
    }

    private static int placeBehind(int kind, int from, int turn, int tide, int caught) {
        VoiceNets x = still();
        x.voice(kind, 0, 9, from);
        x.tide(turn, tide);
        x.change(0, 4, caught);
        for (int i = 0; i <= turn; i++) go(x, 0);
        return x.voiceOf(0, 3);
    }

    @Sentence("IN it are all VOICES at sea at its PLACE, or one more or less")
    static void e2InTheNet() {
        for (int at : new int[] {0, 1, 7, 14, 15}) {
            for (int p = 0; p <= 15; p++) {
                VoiceNets x = still();
                x.voice(QUARREL, 0, 5, at);
                x.voice(QUARREL, 0, 5, p);
                boolean in = Math.abs(p - at) <= 1;
                due("a net at " + at + ", a VOICE at " + p, x.turn(), in ? 6 : 3);
                due("those CAUGHT", x.state(4), in ? 3 : 1);
                due("the other one in the next TURN", x.turn(), in ? 0 : 3);
            }
        }
        VoiceNets x = gulls(1);
        x.voice(CHILD, 0, 9, 1);
        x.change(1, 4, 1);
        x.change(1, 3, 0);
        due("one that is CAUGHT isn't in it", x.turn(), 0);
        int[] caught = {1 + 2 + 8 + 16, 63, 2 + 4 + 16 + 32};
        for (int v = 0; v < 3; v++) {
            VoiceNets y = gulls(6);
            for (int u = 0; u < 6; u++) y.change(u, 3, 7 + u % 3);
            go(y, v + 1);
            due("of six at 7, 8, 9, by a net at " + (7 + v), y.state(4), caught[v]);
        }
    }

    @Sentence("where it is at its PLACE behind its drift")
    static void e3BehindTheDrift() {
        VoiceNets x = still();
        x.tide(0, 1);
        x.voice(FOGHORN, 0, 5, 8);
        x.voice(CHILD, 0, 5, 5);
        x.voice(GULL, 0, 5, 9);
        due("the child is at 7 then, the gull at 11", x.turn(), 11);
        due("those CAUGHT", x.state(4), 3);
    }

    @Sentence("If a net is CAST for a VOICE, and that is at sea")
    static void e4ForOneAtSea() {
        for (int v = 0; v < 6; v++) {
            VoiceNets x = gulls(6);
            tell(x, "gull salt;");
            due("CAST for " + v, go(x, v + 1), 3);
            due("CAUGHT", x.state(4), 1 << v);
            due("CAST again", go(x, v + 1), 0);
            due("a TURN went by", x.state(0), 2);
            x.change(v, 4, 0);
            due("at sea again", go(x, v + 1), 3);
        }
        VoiceNets y = gulls(2);
        y.change(1, 3, 0);
        y.change(0, 4, 1);
        tell(y, "gull salt;");
        due("for one that is CAUGHT none is held, though another is there", go(y, 1), 0);
        due("no net", go(y, 0), 0);
        due("only one is CAUGHT", y.state(4), 1);
    }

    @Sentence("if one of these BURSTS, none is held")
    static void e5Burst() {
        for (int s = 1; s <= 9; s++) {
            for (int p = 0; p <= 15; p++) {
                VoiceNets x = still();
                x.voice(QUARREL, 0, 9, 8);
                x.voice(FOGHORN, 0, s, p);
                boolean in = Math.abs(p - 8) <= 1;
                boolean burst = in && s >= 8;
                due("a foghorn of " + s + " at " + p, x.turn(), burst ? 0 : in ? 8 : 7);
                due("those CAUGHT", x.state(4), burst ? 0 : in ? 3 : 1);
            }
        }
        VoiceNets x = still();
        x.voice(FOGHORN, 0, 8, 8);
        x.set(1, 8);
        x.voice(CHILD, 0, 9, 8);
        due("though it were too slight for the MESH", go(x, 2), 0);
        due("the net is CAST for it", go(x, 1), 0);
        x.change(0, 4, 1);
        due("not one that is CAUGHT", go(x, 2), 18);
        VoiceNets g = still();
        g.voice(GULL, 0, 9, 8);
        g.voice(CHILD, 0, 9, 8);
        due("no gull", g.turn(), 18);
        VoiceNets last = still();
        last.voice(CHILD, 0, 9, 8);
        tell(last, "child free; foghorn free;");
        last.voice(FOGHORN, 0, 9, 9);
        due("nor is one freed", last.turn(), 0);
        due("TURN is 1 more all the same", last.state(0), 1);
    }

    @Sentence("those with more STRENGTH than MESH are held")
    static void e6Mesh() {
        for (int s = 1; s <= 9; s++) {
            for (int m = 0; m <= 9; m++) {
                VoiceNets x = still();
                x.set(1, m);
                x.voice(CHILD, 0, s, 3);
                due("STRENGTH " + s + ", MESH " + m, x.turn(), s > m ? 2 * s : 0);
                due("CAUGHT", x.state(4), s > m ? 1 : 0);
            }
        }
        VoiceNets x = still();
        x.set(1, 5);
        x.voice(CHILD, 0, 5, 3);
        x.voice(CHILD, 0, 6, 3);
        due("the one for which it is CAST slips through, the other doesn't", x.turn(), 12);
        due("CAUGHT", x.state(4), 2);
    }

    @Sentence("its WILL is: keep (if no RULE tells), free, or salt: the first of THE RULES .. tells it")
    static void e7Will() {
        VoiceNets x = still();
        x.voice(PRAYER, 0, 9, 0);
        due("no RULE at all", x.voiceOf(0, 8), 0);
        tell(x, "child free; foghorn free; gull salt; prayer if 1 = 2 salt;");
        due("none tells", x.voiceOf(0, 8), 0);
        tell(x, "prayer salt; quarrel free; voice keep;");
        due("the first", x.voiceOf(0, 8), 2);
        tell(x, "voice free; quarrel salt; prayer keep;");
        due("though one above it", x.voiceOf(0, 8), 1);
        tell(x, "prayer keep; voice salt;");
        due("keep as well", x.voiceOf(0, 8), 0);
        tell(x, "voice if 2=1 free; voice if 2=1 free; voice if 2=1 free; voice if 2=1 free; voice if 2=1 free; "
            + "voice if 2=1 free; voice if 2=1 free; voice salt;");
        due("the eighth", x.voiceOf(0, 8), 2);
    }

    @Sentence("keep: it is CAUGHT, WORTH its PRICE. free: it stays at sea, WORTH 1. salt: it is CAUGHT, WORTH half its PRICE, and 3")
    static void e8Worth() {
        String[] deeds = {"keep", "free", "salt"};
        for (int k = 1; k <= 5; k++) {
            for (int s = 1; s <= 9; s++) {
                int[] worth = {price(k, s), 1, price(k, s) / 2 + 3};
                for (int d = 0; d < 3; d++) {
                    VoiceNets x = still();
                    x.voice(k, 0, s, 0);
                    tell(x, "voice " + deeds[d] + ";");
                    boolean burst = bursts(k, s);
                    due(deeds[d] + " a " + KINDS[k] + " of " + s, x.turn(), burst ? 0 : worth[d]);
                    due("CAUGHT", x.voiceOf(0, 4), burst || d == 1 ? 0 : 1);
                }
            }
        }
    }

    @Sentence("A TURN is WORTH all that together; TURN is 1 more")
    static void e9Together() {
        VoiceNets x = still();
        for (int v = 0; v < 6; v++) x.voice(CHILD, 0, 9, 7 + v % 2);
        tell(x, "child if number < 2 free; child if number = 5 salt;");
        due("two freed, three kept, one salted", x.turn(), 2 + 54 + 12);
        due("SCORE", x.state(2), 68);
        due("TURN", x.state(0), 1);
        due("CAUGHT", x.state(4), 60);
        VoiceNets y = still();
        for (int v = 0; v < 6; v++) y.voice(CHILD, 0, 9, 7 + v % 3);
        due("none of six left behind", go(y, 2), 6 * 18);
    }
}
