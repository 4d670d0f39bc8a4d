/** Each promise of the document: ordinary inputs, the edges that it names, wrong inputs. */
public final class PromiseTest {
    private static final int BAD = -1, FULL = -2, NONE = -3, STATE = -4;
    private static final int CHILD = 1, QUARREL = 2, PRAYER = 3, FOGHORN = 4, GULL = 5;
    private static final int LOW = Integer.MIN_VALUE, HIGH = Integer.MAX_VALUE;
    private static int asked = 0;
    private static int wrong = 0;
    private static String part = "";

    private static void due(String what, int got, int want) {
        asked++;
        if (got != want) {
            wrong++;
            System.out.println(part + ": " + what + " answered " + got + ", due is " + want);
        }
    }

    private static int tell(VoiceNets x, String text) {
        for (int i = 0; i < text.length(); i++) x.feed(text.charAt(i), 1);
        return x.rules();
    }

    /** A child, a quarrel, a foghorn that bursts, a gull, a prayer. */
    private static VoiceNets five() {
        VoiceNets x = new VoiceNets();
        x.voice(CHILD, 4, 6, 3);
        x.voice(QUARREL, 5, 8, 4);
        x.voice(FOGHORN, 9, 9, 10);
        x.voice(GULL, 1, 3, 5);
        x.voice(PRAYER, 7, 4, 2);
        return x;
    }

    private static VoiceNets one(int kind, int pitch, int strength, int place) {
        VoiceNets x = new VoiceNets();
        x.voice(kind, pitch, strength, place);
        return x;
    }

    /** All that a call which is refused, or only asked, must leave as it is. */
    private static String all(VoiceNets x) {
        StringBuilder s = new StringBuilder();
        for (int v = 0; v < 6; v++) for (int what = 0; what < 9; what++) s.append(x.voiceOf(v, what)).append(' ');
        for (int what = 0; what < 6; what++) s.append(x.state(what)).append(' ');
        for (int what = 0; what < 7; what++) s.append(x.many(what)).append(' ');
        for (int t = 0; t < 16; t++) s.append(x.tideOf(t)).append(' ');
        for (int k = 0; k < 4; k++) for (int what = 0; what < 3; what++) s.append(x.row(k, what)).append(' ');
        int z = x.seed(0);
        x.seed(z);
        return s.append(z).toString();
    }

    private static void same(String what, String before, String behind) {
        asked++;
        if (!before.equals(behind)) {
            wrong++;
            System.out.println(part + ": " + what + " changed " + before + " to " + behind);
        }
    }

    private static void promise1() {
        VoiceNets x = new VoiceNets();
        int[] many = {0, 0, 0, 0, 0, 0, 0};
        for (int i = 0; i < many.length; i++) due("many(" + i + ")", x.many(i), many[i]);
        int[] state = {0, 12, 0, 0, 0, 2};
        for (int i = 0; i < state.length; i++) due("state(" + i + ")", x.state(i), state[i]);
        for (int t = 0; t < 16; t++) due("tideOf(" + t + ")", x.tideOf(t), 1);
        due("again", x.again(), NONE);
        due("seed", x.seed(5), 1);
        due("item", x.item(0, 0, 0), -11);
        due("taken", x.taken(0, 0), -11);
        due("trace", x.trace(0), NONE);
        due("judge", x.judge(), 0);
        due("forget", x.forget(), 0);
        due("BAD", VoiceNets.BAD, -1);
        due("FULL", VoiceNets.FULL, -2);
        due("NONE", VoiceNets.NONE, -3);
        due("STATE", VoiceNets.STATE, -4);
    }

    private static void promise2() {
        VoiceNets x = new VoiceNets();
        int[][] bad = {{0, 0, 1, 0}, {6, 0, 1, 0}, {1, -1, 1, 0}, {1, 10, 1, 0}, {1, 0, 0, 0}, {1, 0, 10, 0},
            {1, 0, 1, -1}, {1, 0, 1, 16}, {LOW, 0, 1, 0}, {1, HIGH, 1, 0}, {1, 0, LOW, 0}, {1, 0, 1, HIGH}};
        for (int[] b : bad) due("a voice not as told", x.voice(b[0], b[1], b[2], b[3]), BAD);
        for (int i = 0; i < 6; i++) due("voice " + i, x.voice(1 + i % 5, i, 1 + i, 15 - i), i);
        due("the seventh", x.voice(1, 0, 1, 0), FULL);
        due("BAD stands ahead of FULL", x.voice(0, 0, 1, 0), BAD);
        due("many", x.many(0), 6);
        due("at sea", x.state(4), 0);
        due("the last", x.voiceOf(5, 3), 10);
        due("edges", one(5, 9, 9, 15).voiceOf(0, 2), 9);
    }

    private static void promise3() {
        VoiceNets x = five();
        int[][] of = {{1, 4, 6, 3, 0, 2, 12, 0, 0}, {2, 5, 8, 4, 0, 2, 6, 0, 0}, {4, 9, 9, 10, 0, 0, 1, 1, 0},
            {5, 1, 3, 5, 0, 2, 0, 0, 0}, {3, 7, 4, 2, 0, 1, 7, 0, 0}};
        for (int v = 0; v < 5; v++) for (int w = 0; w < 9; w++) due("voiceOf " + v + " " + w, x.voiceOf(v, w), of[v][w]);
        due("no such voice", x.voiceOf(5, 0), BAD);
        due("voice -1", x.voiceOf(-1, 0), BAD);
        due("what 9", x.voiceOf(0, 9), BAD);
        due("what -1", x.voiceOf(0, -1), BAD);
        due("a quarrel of 5 drifts", one(QUARREL, 0, 5, 0).voiceOf(0, 5), 1);
        due("a quarrel of 6 drifts", one(QUARREL, 0, 6, 0).voiceOf(0, 5), 2);
        due("a quarrel of 1 has a price", one(QUARREL, 0, 1, 0).voiceOf(0, 6), 0);
        due("a prayer of 1 has a price", one(PRAYER, 0, 1, 0).voiceOf(0, 6), 5);
        due("a foghorn of 7 bursts", one(FOGHORN, 0, 7, 0).voiceOf(0, 7), 0);
        due("a foghorn of 8 bursts", one(FOGHORN, 0, 8, 0).voiceOf(0, 7), 1);
        due("a gull of 9 bursts", one(GULL, 0, 9, 0).voiceOf(0, 7), 0);
        VoiceNets y = one(PRAYER, 0, 9, 0);
        due("a prayer in an even turn", y.voiceOf(0, 5), 2);
        y.lot();
        due("a prayer in an odd turn", y.voiceOf(0, 5), 0);
        due("rules", tell(x, "foghorn if turn = 0 and place = 10 salt; gull free; voice if pitch < 5 salt;"), 3);
        int[] will = {2, 0, 2, 1, 0};
        for (int v = 0; v < 5; v++) due("will of " + v, x.voiceOf(v, 8), will[v]);
        x.change(0, 4, 1);
        due("caught", x.voiceOf(0, 4), 1);
        due("the will of one that is caught", x.voiceOf(0, 8), 2);
    }

    private static void promise4() {
        VoiceNets x = five();
        due("pitch", x.change(0, 1, 9), 4);
        due("strength", x.change(0, 2, 1), 6);
        due("place", x.change(0, 3, 15), 3);
        due("caught", x.change(0, 4, 1), 0);
        due("caught again", x.change(0, 4, 1), 1);
        due("those caught", x.state(4), 1);
        due("at sea again", x.change(0, 4, 0), 1);
        due("pitch is", x.voiceOf(0, 1), 9);
        due("strength is", x.voiceOf(0, 2), 1);
        due("place is", x.voiceOf(0, 3), 15);
        due("none is caught", x.state(4), 0);
        String before = all(x);
        int[][] bad = {{0, 0, 1}, {0, 5, 1}, {0, 1, 10}, {0, 1, -1}, {0, 2, 0}, {0, 2, 10}, {0, 3, 16}, {0, 3, -1},
            {0, 4, 2}, {0, 4, -1}, {5, 1, 1}, {-1, 1, 1}, {0, LOW, 1}, {0, 1, HIGH}, {HIGH, 1, 1}};
        for (int[] b : bad) due("not as told " + b[0] + " " + b[1] + " " + b[2], x.change(b[0], b[1], b[2]), BAD);
        same("what is refused", before, all(x));
    }

    private static void promise5() {
        VoiceNets x = five();
        x.change(0, 4, 1);
        due("a child", x.remake(0, FOGHORN), CHILD);
        due("a foghorn", x.remake(0, QUARREL), FOGHORN);
        due("kind", x.voiceOf(0, 0), QUARREL);
        due("pitch stays", x.voiceOf(0, 1), 4);
        due("strength stays", x.voiceOf(0, 2), 6);
        due("place stays", x.voiceOf(0, 3), 3);
        due("caught stays", x.voiceOf(0, 4), 1);
        due("price", x.voiceOf(0, 6), 4);
        due("no such voice", x.remake(5, 1), BAD);
        due("voice -1", x.remake(-1, 1), BAD);
        due("kind 0", x.remake(0, 0), BAD);
        due("kind 6", x.remake(0, 6), BAD);
        due("kind is still", x.voiceOf(0, 0), QUARREL);
    }

    private static void promises6and7() {
        VoiceNets x = new VoiceNets();
        due("tide", x.tide(15, 2), 1);
        due("tide", x.tide(15, 0), 2);
        due("tideOf", x.tideOf(15), 0);
        due("another", x.tideOf(14), 1);
        due("turn 16", x.tide(16, 1), BAD);
        due("turn -1", x.tide(-1, 1), BAD);
        due("tide 3", x.tide(0, 3), BAD);
        due("tide -1", x.tide(0, -1), BAD);
        due("tideOf 16", x.tideOf(16), BAD);
        due("tideOf -1", x.tideOf(-1), BAD);
        due("tideOf lowest", x.tideOf(LOW), BAD);
        due("still", x.tideOf(0), 1);
    }

    private static void promise8() {
        VoiceNets x = new VoiceNets();
        due("end", x.set(0, 1), 12);
        due("end", x.set(0, 16), 1);
        due("mesh", x.set(1, 9), 2);
        due("mesh", x.set(1, 0), 9);
        int[][] bad = {{0, 0}, {0, 17}, {1, -1}, {1, 10}, {2, 1}, {-1, 1}, {0, LOW}, {1, HIGH}};
        for (int[] b : bad) due("not as told", x.set(b[0], b[1]), BAD);
        for (int i = 0; i < 3; i++) x.turn();
        due("end below turn", x.set(0, 2), STATE);
        due("BAD stands ahead of STATE", x.set(0, 0), BAD);
        due("end is", x.state(1), 16);
        due("end at turn", x.set(0, 3), 16);
        due("over", x.state(3), 1);
    }

    private static void promise9() {
        VoiceNets x = five();
        due("a turn", x.turn(), 18);
        due("anew", x.anew(), 1);
        due("turn", x.state(0), 0);
        due("score", x.state(2), 0);
        due("caught", x.state(4), 0);
        due("places stay", x.voiceOf(0, 3), 5);
        due("anew at once", x.anew(), 0);
    }

    private static void promise10() {
        VoiceNets x = five();
        x.set(0, 1);
        x.turn();
        int[] state = {1, 1, 18, 1, 3, 2};
        for (int i = 0; i < 6; i++) due("state(" + i + ")", x.state(i), state[i]);
        due("state(6)", x.state(6), BAD);
        due("state(-1)", x.state(-1), BAD);
        due("state(lowest)", x.state(LOW), BAD);
    }

    private static void promise11() {
        VoiceNets x = new VoiceNets();
        due("n 0", x.feed(0, 0), BAD);
        due("n 9", x.feed(0, 9), BAD);
        due("n -1", x.feed(0, -1), BAD);
        for (int i = 1; i < 25; i++) due("feed", x.feed(0x2020202020202020L, 8), 8 * i);
        due("193", x.feed(32, 1), 193);
        due("more than 200", x.feed(32, 8), FULL);
        due("BAD stands ahead of FULL", x.feed(32, 9), BAD);
        due("it is as it was", x.many(5), 193);
        due("200", x.feed(0x20202020202020L, 7), 200);
        due("201", x.feed(32, 1), FULL);
        due("blanks are no rules", x.rules(), 0);
        due("used up", x.many(5), 0);
        // "gull free;" with the lowest byte first, what is above n left out
        due("eight", x.feed(0x657266206c6c7567L, 8), 8);
        due("two", x.feed(0x7f7f7f7f7f7f3b65L, 2), 10);
        due("read", x.rules(), 1);
    }

    private static void promise12() {
        VoiceNets x = one(CHILD, 4, 6, 3);
        String[] good = {"", "   ", "voice keep;", "voice keep ;child free;", "voice if 1<2 free;", "voice if1<2free;",
            "voice if ( turn = 0 ) and pitch = 4 or strength > 9999 salt ;", "voice if((( 1=1 ))) keep;",
            "voice if not not not 0 = 0000 keep; voice free;",
            "voice keep;voice keep;voice keep;voice keep;voice keep;voice keep;voice keep;voice keep;  "};
        int[] rules = {0, 0, 1, 2, 1, 1, 1, 1, 2, 8};
        for (int i = 0; i < good.length; i++) due(good[i], tell(x, good[i]), rules[i]);
        due("many", x.many(1), 8);
        String[] faulty = {";", "voice", "voice  ", "voice kee", "voice keep", "voice keep; x", "child if turn",
            "child if turn <", "child if turn < 12345 keep;", "child if (((( 1 = 1 )))) keep;", "child if (1=1 keep;",
            "child if 1=1) keep;", "child if 1 keep;", "child if keep;", "child keep free;", "keep;", "if", "child if and",
            "child if 1=1 and or 1=1 keep;", "child if 1=1 not keep;", "Child keep;", "child\tkeep;", "child if turnx < 1 keep;",
            "child if 1 < 2 < 3 keep;", "child if () keep;", "child if 1 <= 2 keep;", "child keep;;", "child if (1) < 2 keep;",
            "voice keep;voice keep;voice keep;voice keep;voice keep;voice keep;voice keep;voice keep; voice keep;",
            "child if (1=1) (2=2) keep;", "\377", "child if 1=1 keep; gull if", "child if turn turn", "child if 00000 = 0 keep;",
            "child keepz;", "child if 1=1 or keep;", "child if 1=1 and keep;", "child if turn < keep;", "child if not keep;"};
        int[] at = {0, 5, 7, 6, 10, 12, 13, 15, 16, 12, 14, 12, 11, 9, 11, 0, 0, 9, 17, 13, 0, 5, 9, 15, 10, 12, 11, 11,
            89, 15, 0, 26, 14, 9, 6, 16, 17, 16, 13};
        for (int i = 0; i < faulty.length; i++) {
            due(faulty[i], tell(x, faulty[i]), -100 - at[i]);
            due("the tape is used up", x.many(5), 0);
            due("the rules stay", x.many(1), 8);
        }
        due("none", x.rules(), 0);
        due("in place of all", x.many(1), 0);
    }

    /** What conditions tell, by a free or salt rule for one voice. */
    private static void conditions() {
        VoiceNets x = one(CHILD, 4, 6, 3);
        x.voice(PRAYER, 1, 9, 7);
        String[] so = {"1 < 2", "not 2 < 1", "2 > 1", "2 = 2", "0002 = 2", "turn = 0", "pitch = 4", "strength = 6", "place = 3",
            "number = 0", "1=2 or 1=1", "1=1 or 1=2 and 1=2", "(1=1 or 1=2) and 1=1", "not (1=1 and 1=2)", "not not 1=1",
            "not 1=2 and 1=1", "1=2 or 1=2 or 1=1", "((1=1))", "not ( not ( not 1 = 2 ) )", "9999 > place", "place<strength",
            "1=2 and 1=2 or not 1=2 and (1=1 or (1=2 and (1=1 or 1=2)))"};
        for (String s : so) {
            due(s, tell(x, "child if " + s + " salt;"), 1);
            due("so is " + s, x.voiceOf(0, 8), 2);
            due("so is not " + s, tell(x, "child if not (" + s.replace("((", "(").replace("))", ")") + ") salt;") == 1
                ? x.voiceOf(0, 8) : 0, 0);
        }
        tell(x, "quarrel if number = 1 free; voice salt;");
        due("a prayer is under quarrel", x.voiceOf(1, 8), 1);
        due("a child is not", x.voiceOf(0, 8), 2);
        tell(x, "gull free; foghorn free; prayer if place > 7 free; prayer keep; voice salt;");
        due("the first whose condition holds", x.voiceOf(1, 8), 0);
        x.change(1, 3, 8);
        due("as all is now", x.voiceOf(1, 8), 1);
        tell(x, "child free;");
        due("nothing is left of those before", x.voiceOf(1, 8), 0);
        tell(x, "voice free;");
        due("a voice is above all", x.voiceOf(1, 8), 1);
        due("a child, too", x.voiceOf(0, 8), 1);
        tell(x, "child if 1=2 and (2>1 or (1<2 or (2>1 or 1<2))) salt;");
        due("brackets", x.voiceOf(0, 8), 0);
        tell(x, "child if 1=1 or (2<1 and (2<1 or (1>2 and 2<1))) salt;");
        due("brackets", x.voiceOf(0, 8), 2);
    }

    private static void promise13() {
        VoiceNets x = five();
        due("worth", x.turn(), 18);
        due("turn", x.state(0), 1);
        due("score", x.state(2), 18);
        int[] place = {5, 6, 10, 7, 3};
        for (int v = 0; v < 5; v++) due("place " + v, x.voiceOf(v, 3), place[v]);
        due("caught", x.state(4), 3);
        due("the foghorn bursts it", x.turn(), 0);
        int[] later = {5, 6, 10, 9, 3};
        for (int v = 0; v < 5; v++) due("place then " + v, x.voiceOf(v, 3), later[v]);
        x.set(0, 2);
        String before = all(x);
        due("over", x.turn(), STATE);
        same("a turn that can't be", before, all(x));

        VoiceNets y = one(CHILD, 0, 3, 14);
        y.tide(1, 2);
        y.tide(2, 0);
        y.set(1, 3);
        due("it slips through a mesh as wide", y.turn(), 0);
        due("held to 15", y.voiceOf(0, 3), 15);
        y.turn();
        due("at ebb", y.voiceOf(0, 3), 13);
        y.turn();
        due("slack", y.voiceOf(0, 3), 13);
        y.change(0, 3, 1);
        y.tide(3, 2);
        y.set(1, 2);
        due("held", y.turn(), 6);
        due("held to 0", y.voiceOf(0, 3), 0);
        due("none is at sea", y.turn(), 0);
        due("one that is caught stays", y.voiceOf(0, 3), 0);

        VoiceNets f = one(CHILD, 0, 5, 3);
        f.voice(FOGHORN, 0, 5, 6);
        f.voice(GULL, 0, 5, 4);
        f.voice(QUARREL, 0, 5, 7);
        tell(f, "child free; foghorn if place = 6 salt;");
        due("free 1, salt 3 and 3: one more or less is in it", f.turn(), 7);
        due("caught, not the freed one, not what was too far", f.state(4), 6);
        due("again free, and the quarrel", f.turn(), 1);
        VoiceNets o = one(QUARREL, 0, 7, 3);
        tell(o, "voice salt;");
        due("half of 5 is 2, and 3", o.turn(), 5);
    }

    private static void promises14and15() {
        VoiceNets x = five();
        String before = all(x);
        due("0", x.on(0), 0);
        due("1", x.on(1), 18);
        due("16", x.on(16), 18);
        due("17", x.on(17), BAD);
        due("-1", x.on(-1), BAD);
        due("child", x.when(0), 0);
        due("foghorn", x.when(2), NONE);
        due("no such voice", x.when(5), BAD);
        due("voice -1", x.when(-1), BAD);
        same("what is asked", before, all(x));
        x.change(0, 4, 1);
        due("is caught now", x.when(0), NONE);
        VoiceNets y = one(CHILD, 0, 4, 0);
        y.voice(QUARREL, 0, 4, 5);
        tell(y, "quarrel if turn < 3 free;");
        due("later", y.when(1), 3);
        due("freed and kept", y.on(16), 8 + 1 + 1 + 2);
        due("fewer", y.on(2), 9);
        y.turn();
        due("by the turn's number", y.when(1), 3);
        y.set(0, 3);
        due("over ahead of it", y.when(1), NONE);
        due("till it is over", y.on(16), 2);
        VoiceNets z = one(CHILD, 0, 4, 0);
        z.set(0, 16);
        tell(z, "child if turn < 15 free;");
        due("in the last turn of all", z.when(0), 15);
        due("sixteen turns", z.on(16), 15 + 8);
        due("fifteen turns", z.on(15), 15);
    }

    private static void promises16and17() {
        due("no voices", new VoiceNets().meshFor(), 0);
        // The gull slips through a mesh from 1 on, and the net goes with it to the quarrel; once it is caught,
        // the net is cast for the foghorn, which bursts it.
        VoiceNets x = one(GULL, 0, 1, 0);
        x.voice(FOGHORN, 0, 9, 15);
        x.voice(QUARREL, 0, 5, 6);
        String before = all(x);
        due("wide enough for the gull", x.meshFor(), 1);
        same("meshFor", before, all(x));
        x.set(0, 4);
        due("too early for the quarrel: all alike", x.meshFor(), 0);
        x.set(0, 5);
        due("just in time", x.meshFor(), 1);
        x.set(1, 9);
        due("whatever it is now", x.meshFor(), 1);
        x.change(0, 2, 4);
        due("wider", x.meshFor(), 4);

        VoiceNets p = one(FOGHORN, 0, 9, 8);
        p.voice(CHILD, 0, 5, 8);
        p.set(0, 1);
        before = all(p);
        due("a net for what bursts it", p.placeFor(0), 0);
        due("nothing helps", p.placeFor(1), 0);
        same("placeFor", before, all(p));
        VoiceNets q = one(FOGHORN, 0, 7, 8);
        q.voice(CHILD, 0, 5, 3);
        q.set(0, 1);
        due("into the net", q.placeFor(1), 5);
        q.tide(0, 2);
        q.change(0, 3, 14);
        due("from the last place alone", q.placeFor(1), 15);
        q.tide(0, 1);
        q.change(0, 3, 8);
        due("to the child", q.placeFor(0), 4);
        q.change(1, 4, 1);
        due("caught, it drifts from nowhere", q.placeFor(1), 0);
        due("no such voice", q.placeFor(2), BAD);
        due("voice -1", q.placeFor(-1), BAD);
    }

    private static void promise18to20() {
        VoiceNets x = new VoiceNets();
        due("none", x.quarrels(), 0);
        due("no nets", x.apart(-1), 0);
        due("no such voice", x.apart(0), BAD);
        due("no choir", x.choir(0), 0);
        due("no strength", x.choir(1), 0);
        int[] pitch = {5, 3, 4, 6, 9, 0};
        int[] strength = {4, 4, 9, 5, 1, 1};
        for (int i = 0; i < 6; i++) x.voice(CHILD, pitch[i], strength[i], 0);
        x.change(2, 4, 1);
        due("5-4, 5-6, 3-4: caught or not", x.quarrels(), 3);
        due("nets", x.apart(-1), 2);
        int[] net = {0, 0, 1, 1, 0, 0};
        for (int i = 0; i < 6; i++) due("net of " + i, x.apart(i), net[i]);
        due("apart(6)", x.apart(6), BAD);
        due("apart(-2)", x.apart(-2), BAD);
        due("choir 4, 6, 9, 0", x.choir(0), 60);
        due("strength", x.choir(1), 16);
        due("choir(2)", x.choir(2), BAD);
        due("choir(-1)", x.choir(-1), BAD);
        VoiceNets y = one(CHILD, 2, 3, 0);
        y.voice(CHILD, 3, 3, 0);
        due("of several the least", y.choir(0), 1);
        VoiceNets z = new VoiceNets();
        for (int i = 0; i < 6; i++) z.voice(GULL, 7, 2, 0);
        due("all pairs", z.quarrels(), 15);
        due("six nets", z.apart(-1), 6);
        due("the last", z.apart(5), 5);
        VoiceNets o = one(CHILD, 2, 1, 0);
        due("one voice, one net", o.apart(-1), 1);
        due("its net", o.apart(0), 0);
        due("a choir of one", o.choir(0), 1);
        due("of the least strength", o.choir(1), 1);
        // taken by numbers into the least net that is free, this would need a third
        VoiceNets w = new VoiceNets();
        for (int p : new int[] {1, 4, 2, 3}) w.voice(CHILD, p, 1, 0);
        due("two do", w.apart(-1), 2);
        int[] row = {0, 1, 1, 0};
        for (int i = 0; i < 4; i++) due("row " + i, w.apart(i), row[i]);
    }

    private static void promise21to23() {
        VoiceNets x = five();
        String before = all(x);
        int[] best = {0, 18, 25, 25, 25};
        for (int n = 0; n < 5; n++) due("best " + n, x.best(n), best[n]);
        due("ways 0", x.ways(0), 1);
        due("ways 1", x.ways(1), 2);
        due("ways 2", x.ways(2), 4);
        due("best 5", x.best(5), BAD);
        due("best -1", x.best(-1), BAD);
        due("ways 5", x.ways(5), BAD);
        due("ways -1", x.ways(-1), BAD);
        due("first", x.ith(1, 0), 1);
        due("not so many", x.ith(1, 1), NONE);
        due("none", x.ith(0, 0), NONE);
        due("i 4", x.ith(4, 4), BAD);
        due("i -1", x.ith(4, -1), BAD);
        due("n 5", x.ith(5, 0), BAD);
        due("the second of two", x.ith(2, 1), 5);
        same("plans", before, all(x));
        x.set(0, 1);
        due("fewer turns", x.best(4), 18);
        due("first, with nothing asked ahead", five().ith(2, 0), 1);
        due("fewer acts", x.ith(4, 1), NONE);
        due("fewer ways", x.ways(4), 2);
        x.turn();
        due("over: best", x.best(4), 0);
        due("over: ways", x.ways(4), 1);
        due("over: ith", x.ith(4, 0), NONE);
        due("no voices", new VoiceNets().ways(4), 1);
        VoiceNets y = one(CHILD, 0, 9, 0);
        tell(y, "child if turn < 2 free;");
        due("free, free, keep", y.best(3), 20);
        due("one way", y.ways(3), 1);
        due("kept in turn 3, in turn 2, and then a net for one that is caught", y.ways(4), 3);
        due("the lesser where they are unlike first", y.ith(4, 2), 0);
        due("and then", y.ith(4, 3), 1);
        y.change(0, 4, 1);
        due("all plans alike", y.ways(4), 16);
    }

    private static void promises24and25() {
        VoiceNets x = five();
        String before = all(x);
        due("none asked", x.haul(0, 0), 0);
        due("both in one net", x.haul(2, 3), 1);
        due("the foghorn", x.haul(4, 4), NONE);
        due("four", x.haul(3, 27), 2);
        due("no turn", x.haul(0, 1), NONE);
        due("no such voice", x.haul(1, 32), BAD);
        due("a set below 0", x.haul(1, -1), BAD);
        due("n 5", x.haul(5, 0), BAD);
        due("n -1", x.haul(-1, 0), BAD);
        due("bar", x.bars(4, 31), 2);
        due("no bar", x.bars(3, 27), NONE);
        due("no bar of none", x.bars(0, 0), NONE);
        due("the least", x.bars(0, 26), 1);
        due("the least of all", x.bars(0, 31), 0);
        due("no such voice", x.bars(1, 32), BAD);
        due("a set below 0", x.bars(1, LOW), BAD);
        due("n 5", x.bars(5, 0), BAD);
        due("n -1", x.bars(-1, 0), BAD);
        same("hauls", before, all(x));
        x.change(2, 4, 1);
        due("is caught now", x.haul(0, 4), 0);
        due("is no bar", x.bars(0, 4), NONE);
        // Each can be caught, but not both in one turn
        VoiceNets y = one(CHILD, 0, 9, 0);
        y.voice(CHILD, 0, 9, 9);
        due("both at once", y.haul(1, 3), NONE);
        due("each behind some", y.bars(1, 3), NONE);
        due("both", y.haul(2, 3), 2);
    }

    private static void promises26and27() {
        VoiceNets x = five();
        String before = all(x);
        due("game 1", x.game(1), 18);
        due("game 2", x.game(2), 18);
        due("play 1", x.play(1), 1);
        due("play 4", x.play(4), 1);
        due("game 0", x.game(0), BAD);
        due("game 5", x.game(5), BAD);
        due("play 0", x.play(0), BAD);
        due("play 5", x.play(5), BAD);
        same("games", before, all(x));
        VoiceNets y = one(CHILD, 0, 9, 0);
        tell(y, "child if turn < 1 free;");
        due("freed", y.game(1), 1);
        due("the other one casts no net", y.game(2), 1);
        due("so the first one does: 1 + 0 + 18", y.game(3), 19);
        due("by casting", y.play(3), 1);
        y.turn();
        due("18", y.game(1), 18);
        due("18 at once", y.game(2), 18);
        y.set(0, 1);
        due("over: value", y.game(4), 0);
        due("over: play", y.play(4), NONE);
        due("BAD stands ahead of NONE", y.play(0), BAD);
        due("nothing is worth anything", new VoiceNets().play(3), 0);
        // the other one salts it for 12, lest it be kept for 18
        VoiceNets w = one(CHILD, 0, 9, 0);
        tell(w, "child if turn = 0 free; child if turn = 1 salt;");
        due("play, with nothing asked ahead", w.play(3), 1);
        due("1 and 12", w.game(3), 13);
        due("1", w.game(2), 1);
        due("1 and 12, and none is left", w.game(4), 13);
        // salt would catch for 3; the other one then can't keep it from 1 a turn
        VoiceNets z = one(GULL, 0, 9, 0);
        tell(z, "gull if turn < 1 free; gull salt;");
        due("the other one lets it be", z.game(2), 1);
        due("the first one salts it", z.game(3), 4);
    }

    private static void promise28to31() {
        VoiceNets x = new VoiceNets();
        int[][] bad = {{-1, 0, 0}, {16, 0, 0}, {0, -1, 0}, {0, 16, 16}, {0, 0, 16}, {0, 3, 2}, {0, 0, -1}, {LOW, 0, 0}};
        for (int[] b : bad) due("report not as told", x.report(b[0], b[1], b[2]), BAD);
        due("all fit", x.span(0), 80);
        due("least kind", x.span(1), 1);
        due("least place", x.span(2), 0);
        due("no liar", x.liar(), NONE);
        due("span 3", x.span(3), BAD);
        due("span -1", x.span(-1), BAD);
        due("first", x.report(0, 4, 4), 0);
        due("one of each kind", x.span(0), 5);
        due("some fit: no liar", x.liar(), NONE);
        due("second", x.report(2, 6, 6), 1);
        due("a prayer alone", x.span(0), 1);
        due("kind", x.span(1), PRAYER);
        due("place", x.span(2), 4);
        x.tide(1, 2);
        due("as tides are: none", x.span(0), 1);
        due("a prayer still", x.span(1), PRAYER);
        x.tide(1, 1);
        due("third", x.report(2, 8, 8), 2);
        due("none fits", x.span(0), 0);
        due("no kind", x.span(1), NONE);
        due("no place", x.span(2), NONE);
        due("but for the first: nothing is at 6 and at 8", x.liar(), 1);
        due("fourth", x.report(1, 0, 0), 3);
        due("two are wrong", x.liar(), NONE);
        due("fifth", x.report(15, 0, 15), 4);
        due("sixth", x.report(15, 15, 15), 5);
        due("seventh", x.report(0, 0, 0), FULL);
        due("BAD stands ahead of FULL", x.report(0, 1, 0), BAD);
        due("many", x.many(3), 6);
        due("forget", x.forget(), 6);
        x.report(0, 5, 5);
        x.report(0, 4, 4);
        due("either: the least", x.liar(), 0);
        x.report(0, 6, 6);
        due("but for none", x.liar(), NONE);
        due("three", x.forget(), 3);
        due("none", x.forget(), 0);
        due("all fit again", x.span(0), 80);
        // behind k turns counts from turn 0, whatever TURN and END are
        x.set(0, 1);
        x.turn();
        x.report(3, 0, 0);
        due("a foghorn alone", x.span(1), FOGHORN);
        due("that is all", x.span(0), 1);
        x.tide(0, 2);
        x.tide(1, 2);
        x.tide(2, 0);
        due("child 0 to 4, quarrel 0 to 4, prayer 0 to 2, foghorn 0, gull 0 to 4", x.span(0), 19);
    }

    private static void promise32to34() {
        VoiceNets x = five();
        due("seed", x.seed(HIGH), 1);
        due("seed", x.seed(-7), HIGH);
        due("seed", x.seed(1), -7);
        // 1103515245 + 12345 = 1103527590, 16838 by 6 leaves 2: for voice 1
        due("lot", x.lot(), 18);
        due("z", x.seed(1), 1103527590);
        due("turn", x.state(0), 1);
        due("score", x.state(2), 18);
        x.set(0, 1);
        due("over", x.lot(), STATE);
        due("z stays", x.seed(1), 1);
        VoiceNets y = five();
        y.set(0, 1);
        String before = all(y);
        due("once", y.times(1, 18), 1);
        due("not 19", y.times(1, 19), 0);
        due("n 0", y.times(0, 0), BAD);
        due("n 41", y.times(41, 0), BAD);
        due("v -1", y.times(1, -1), BAD);
        due("v 1000", y.times(1, 1000), BAD);
        due("all of 40", y.times(40, 0), 40);
        same("times", before, all(y));
        int z = 1;
        int due = 0;
        for (int i = 0; i < 40; i++) {
            z = z * 1103515245 + 12345;
            int act = (z >>> 16) % 6;
            if (act == 1 || act == 2) due++;
        }
        due("z goes on from one to the next", y.times(40, 18), due);
        y.turn();
        due("over: all are worth 0", y.times(3, 0), 3);
        due("over: none is worth 1", y.times(3, 1), 0);
        VoiceNets n = new VoiceNets();
        due("no voices: act 0", n.lot(), 0);
        VoiceNets f = one(CHILD, 0, 9, 0);
        tell(f, "child free;");
        f.set(0, 16);
        f.turn();
        before = all(f);
        int[] sums = {0, 0, 0};
        z = 1;
        for (int i = 0; i < 3; i++) {
            for (int t = 1; t < 16; t++) {
                z = z * 1103515245 + 12345;
                sums[i] += (z >>> 16) % 2;
            }
        }
        for (int v = 0; v < 16; v++) {
            int enough = 0;
            for (int sum : sums) if (sum >= v) enough++;
            due("freed by lot " + v + " times", f.times(3, v), enough);
        }
        same("times behind a turn", before, all(f));
        f.anew();
        z = 1;
        int sum = 0;
        for (int t = 0; t < 16; t++) {
            z = z * 1103515245 + 12345;
            sum += (z >>> 16) % 2;
        }
        f.seed(1);
        due("all sixteen turns", f.times(1, sum), 1);
        due("and no more", f.times(1, sum + 1), 0);
        // a seed by which the last of the sixteen turns is one with a net
        for (int seed = 2; (z >>> 16) % 2 == 0; seed++) {
            z = seed;
            sum = 0;
            for (int t = 0; t < 16; t++) {
                z = z * 1103515245 + 12345;
                sum += (z >>> 16) % 2;
            }
            f.seed(seed);
        }
        due("with the last one", f.times(1, sum), 1);
    }

    private static void promise35to38() {
        VoiceNets x = five();
        due("no rows", x.many(4), 0);
        due("no row", x.row(0, 0), -9);
        due("nothing is wrong", x.judge(), 0);
        due("rows", x.prove(2), 2);
        due("many", x.many(4), 2);
        int[][] rows = {{1, 18, 3}, {5, 7, 19}};
        for (int k = 0; k < 2; k++) for (int w = 0; w < 3; w++) due("row " + k + " " + w, x.row(k, w), rows[k][w]);
        due("n 5", x.prove(5), BAD);
        due("n -1", x.prove(-1), BAD);
        due("rows stay", x.many(4), 2);
        due("the sea stays", x.state(0), 0);
        int[][] none = {{2, 0}, {-1, 0}, {0, 3}, {0, -1}, {HIGH, 0}, {0, LOW}};
        for (int[] n : none) {
            due("no such row", x.row(n[0], n[1]), -9);
            due("none to alter", x.alterRow(n[0], n[1], 0), -9);
        }
        String before = all(x);
        due("all right", x.judge(), 0);
        same("judge", before, all(x));
        due("alter", x.alterRow(1, 2, LOW), 19);
        due("it is", x.row(1, 2), LOW);
        due("second wrong", x.judge(), 2);
        due("back", x.alterRow(1, 2, 19), LOW);
        due("act -1", x.alterRow(0, 0, -1), 1);
        due("first wrong", x.judge(), 1);
        due("act for none there", x.alterRow(0, 0, 6), -1);
        due("still wrong", x.judge(), 1);
        due("a net for the quarrel is worth as much, but catches the gull, too", x.alterRow(0, 0, 2), 6);
        due("is wrong", x.judge(), 1);
        due("as it was", x.alterRow(0, 0, 1), 2);
        due("right again", x.judge(), 0);
        x.set(0, 1);
        due("over ahead of the second", x.judge(), 2);
        x.set(0, 12);
        x.turn();
        due("from how it is now", x.judge(), 1);
        due("no turns", x.prove(0), 0);
        due("no rows are right", x.judge(), 0);
        x.set(0, 2);
        due("fewer", x.prove(4), 1);
        VoiceNets y = new VoiceNets();
        due("rows without voices", y.prove(2), 2);
        due("right", y.judge(), 0);
        y.set(0, 1);
        due("the second is over, though it is worth nothing", y.judge(), 2);
        y.alterRow(0, 0, 1);
        due("no act, though it is worth nothing", y.judge(), 1);
    }

    private static void promise39to41() {
        VoiceNets x = new VoiceNets();
        int[][] bad = {{-1, 0, 0}, {4, 0, 0}, {0, 5, 0}, {0, -2, 0}, {0, 0, 41}, {4, 0, -1}, {0, 5, -1}};
        for (int[] b : bad) due("sheet not as told", x.sheet(b[0], b[1], b[2]), BAD);
        due("a size below 0", x.sheet(0, 0, -1), -14);
        due("a size far below 0", x.sheet(0, 4, LOW), -14);
        due("missing: n counts nothing", x.sheet(0, -1, 99), 1);
        due("missing: n counts nothing", x.sheet(0, -1, -99), 1);
        due("40", x.sheet(3, 4, 40), 1);
        due("0", x.sheet(2, 3, 0), 1);
        int[] is = {-128, -32640, 98432, 98432, 1};
        for (int sort = 0; sort < 5; sort++) {
            due("sheet", x.sheet(1, sort, 3), 1);
            due("all 0", x.item(1, sort, 2), 0);
            due("write", x.write(1, 2, 98432), 1);
            due("narrowed", x.item(1, sort, 2), is[sort]);
            due("write 0", x.write(1, 2, 0), 1);
            due("0", x.item(1, sort, 2), 0);
            due("write -1", x.write(1, 0, -1), 1);
            due("-1", x.item(1, sort, 0), sort == 4 ? 1 : -1);
            due("outside", x.item(1, sort, 3), -12);
            due("outside", x.write(1, 3, 0), -12);
            due("outside", x.write(1, -1, 0), -12);
            due("outside", x.item(1, sort, LOW), -12);
            for (int other = 0; other < 5; other++) {
                if (other != sort) due("another sort stands ahead of outside", x.item(1, other, 99), -13);
            }
        }
        due("lowest", x.sheet(1, 3, 1), 1);
        due("write", x.write(1, 0, LOW), 1);
        due("the lowest 32 bits", x.item(1, 3, 0), LOW);
        due("missing", x.write(0, 0, 0), -11);
        due("missing stands ahead of outside", x.item(0, 2, 99), -11);
        due("no such sheet", x.write(4, 0, 0), BAD);
        due("no such sheet", x.write(-1, 0, 0), BAD);
        due("no such sheet", x.item(4, 0, 0), BAD);
        due("no such sort", x.item(1, 5, 0), BAD);
        due("no such sort", x.item(1, -1, 0), BAD);
        due("an empty row", x.item(2, 3, 0), -12);
        due("made anew", x.sheet(1, 3, 1), 1);
        due("all 0 again", x.item(1, 3, 0), 0);
        x.write(1, 0, 5);
        due("refused", x.sheet(1, 0, -1), -14);
        due("stays", x.item(1, 3, 0), 5);
    }

    private static void promises42and43() {
        VoiceNets x = five();
        x.sheet(0, 0, 6);
        int[] items = {1, 5, 9, -1, 0, 2};
        for (int i = 0; i < 6; i++) x.write(0, i, items[i]);
        x.sheet(1, 2, 6);
        int[][] bad = {{-1, 0, 1}, {4, 0, 1}, {0, 0, -1}, {0, 0, 21}, {1, 0, 21}};
        String before = all(x);
        for (int[] b : bad) {
            due("wouldBe not as told", x.wouldBe(b[0], b[1], b[2]), BAD);
            due("goAll not as told", x.goAll(b[0], b[1], b[2]), BAD);
        }
        due("another sort", x.wouldBe(1, 0, 1), -13);
        due("another sort", x.goAll(1, 0, 0), -13);
        due("missing", x.wouldBe(2, 0, 1), -11);
        due("missing", x.goAll(2, 99, 1), -11);
        due("outside", x.goAll(0, 6, 1), -12);
        due("outside", x.goAll(0, -1, 3), -12);
        due("outside", x.goAll(0, HIGH, 3), -12);
        due("outside", x.goAll(0, LOW, 20), -12);
        due("outside", x.wouldBe(0, -1, 3), -12);
        due("outside", x.wouldBe(0, HIGH, 20), -12);
        due("none", x.wouldBe(0, 0, 0), 0);
        due("none, though i is outside", x.wouldBe(0, 99, 0), 0);
        due("none, though i is outside", x.goAll(0, 99, 0), 0);
        due("two", x.wouldBe(0, 0, 2), 25);
        due("no act", x.wouldBe(0, 0, 3), STATE);
        due("no act", x.wouldBe(0, 3, 1), STATE);
        due("no act stands ahead of an item outside", x.wouldBe(0, 0, 7), STATE);
        due("an item outside", x.wouldBe(0, 4, 3), -12);
        same("wouldBe", before, all(x));
        x.set(0, 1);
        due("over ahead of the second", x.wouldBe(0, 0, 2), STATE);
        due("over, then outside", x.wouldBe(0, 5, 2), -12);
        x.set(0, 12);
        due("what is no act is left out", x.goAll(0, 0, 5), 25);
        due("three turns", x.state(0), 3);
        due("score", x.state(2), 25);
        due("what stood ahead was done", x.goAll(0, 4, 9), -12);
        due("two turns more", x.state(0), 5);
        x.set(0, 6);
        due("when it is over, is left out", x.goAll(0, 0, 6), 0);
        due("one turn more", x.state(0), 6);
        due("over, and outside", x.goAll(0, 5, 2), -12);
    }

    private static void promises44and45() {
        VoiceNets x = five();
        x.sheet(1, 3, 7);
        int[][] bad = {{-1, 2, 0}, {4, 2, 0}, {0, 3, 0}, {0, -1, 0}, {0, 0, 5}, {0, 0, -1}, {0, 1, 4}, {0, 1, -1}};
        for (int[] b : bad) due("shelf not as told", x.shelf(b[0], b[1], b[2]), BAD);
        due("nothing", x.taken(0, 0), -11);
        due("nothing", x.taken(0, 14), -11);
        due("no such shelf", x.taken(4, 0), BAD);
        due("no such shelf", x.taken(-1, 0), BAD);
        int[] no = {-1, 6, 9, 15, LOW, HIGH};
        for (int as : no) due("no such as", x.taken(0, as), BAD);
        int[][] under = {{0, 1}, {0, 2}, {0, 4}, {0, 4, 5}, {0, 2, 3}};
        for (int v = 0; v < 5; v++) {
            due("a voice", x.shelf(0, 0, v), 1);
            for (int as = 0; as < 15; as = as == 5 ? 10 : as + 1) {
                boolean fits = false;
                for (int u : under[v]) fits |= u == as;
                due("voice " + v + " as " + as, x.taken(0, as), fits ? v : -13);
            }
        }
        due("a row", x.shelf(1, 1, 1), 1);
        for (int as = 0; as < 15; as = as == 5 ? 10 : as + 1) due("a row as " + as, x.taken(1, as), as == 13 ? 7 : -13);
        x.sheet(1, 0, 2);
        due("the shelf keeps its row", x.taken(1, 13), 7);
        x.sheet(1, -1, 0);
        due("the shelf keeps its row", x.taken(1, 13), 7);
        due("a missing one", x.shelf(1, 1, 1), 1);
        due("is nothing", x.taken(1, 13), -11);
        due("nothing, whatever n is", x.shelf(0, 2, 99), 1);
        due("is nothing", x.taken(0, 0), -11);
        x.shelf(3, 0, 4);
        x.remake(4, CHILD);
        due("of its kind now", x.taken(3, 1), 4);
        due("no quarrel any more", x.taken(3, 2), -13);
        VoiceNets y = one(CHILD, 0, 1, 0);
        y.keep();
        y.voice(GULL, 0, 1, 0);
        y.shelf(0, 0, 1);
        y.again();
        due("no such one now", y.taken(0, 0), -11);
        due("no act", y.act(0, 0, 1), 0);
        y.voice(QUARREL, 0, 1, 0);
        due("there is one again", y.taken(0, 2), 1);
    }

    private static void body(VoiceNets x, int act, int with, int answer, int... trace) {
        due("act " + act + " " + with, x.act(0, act, with), answer);
        due("bodies of " + act, x.many(6), trace.length);
        for (int i = 0; i < trace.length; i++) due("body " + i + " of " + act, x.trace(i), trace[i]);
        due("behind the last", x.trace(trace.length), NONE);
        due("ahead of the first", x.trace(-1), NONE);
    }

    /** Voice 1 with STRENGTH 3: n 1, a 3, parted by -2. */
    private static VoiceNets shelved(int kind, int strength) {
        VoiceNets x = one(CHILD, 0, 1, 0);
        x.voice(kind, 0, strength, 0);
        x.shelf(0, 0, 1);
        return x;
    }

    private static void promises46and47() {
        VoiceNets c = shelved(CHILD, 3);
        body(c, 0, 5, 21, 20, 10);
        body(c, 1, 5, 24, 11, 20, 10);
        body(c, 2, 5, -2, 12);
        body(c, 3, 5, 24 ^ -2, 13, 11, 20, 10, 12);
        body(c, 2, LOW, 1 << 30, 12);
        body(c, 0, 1 << 30, (3 << 30) - 1 + 7, 20, 10);
        VoiceNets q = shelved(QUARREL, 3);
        body(q, 0, 5, 14, 10);
        body(q, 1, 5, -17, 30, 11, 10);
        body(q, 2, -5, 2, 12);
        body(q, 3, 5, -17 ^ -2, 13, 30, 11, 10, 12);
        VoiceNets f = shelved(FOGHORN, 3);
        body(f, 0, 5, 14, 10);
        body(f, 1, 5, 17, 11, 10);
        body(f, 2, 5, -6, 40, 12);
        body(f, 3, 5, 17 ^ -6, 13, 11, 10, 40, 12);
        VoiceNets p = shelved(PRAYER, 3);
        body(p, 0, 5, 11, 50, 10);
        body(p, 1, 5, -14, 30, 11, 50, 10);
        body(p, 2, 5, -2, 12);
        body(p, 3, 5, (-14 ^ -2) - 2, 51, 13, 30, 11, 50, 10, 12, 30, 11, 50, 10);
        VoiceNets g = shelved(GULL, 3);
        body(g, 0, 5, 14, 10);
        body(g, 1, 5, 17 ^ 9, 60, 11, 10);
        body(g, 2, 5, -6 + 8, 61, 40, 12, 10);
        body(g, 3, 5, 17 ^ 9 ^ 2, 13, 60, 11, 10, 61, 40, 12, 10);
        body(shelved(PRAYER, 1), 3, 5, -15, 51, 13, 30, 11, 50, 10, 12);
        body(shelved(GULL, 1), 2, 5, -15, 61, 40, 12);
        body(shelved(CHILD, 1), 0, 5, 21, 20, 10);
        VoiceNets b = shelved(GULL, 1);
        body(b, 3, 5, -15, 13, 60, 11, 10, 61, 40, 12);
        b.change(1, 2, 3);
        body(b, 2, 5, 2, 61, 40, 12, 10);
        body(shelved(CHILD, 2), 2, LOW, LOW, 12);
        g.sheet(0, 2, 3);
        g.shelf(1, 1, 0);
        int[][] none = {{4, 0}, {-1, 0}, {0, 4}, {0, -1}, {1, 0}, {2, 0}, {LOW, 0}, {0, HIGH}};
        for (int[] n : none) {
            g.act(0, 0, 1);
            due("there is a trace", g.many(6), 1);
            due("no such act", g.act(n[0], n[1], 1), 0);
            due("no trace", g.many(6), 0);
            due("no trace", g.trace(0), NONE);
        }
        g.change(1, 4, 1);
        due("caught or not", g.act(0, 0, 5), 14);
        due("far", g.trace(HIGH), NONE);
        due("far", g.trace(LOW), NONE);
    }

    /** Behind a turn, so that score, places and those caught have something to come back to. */
    private static void asked() {
        VoiceNets x = five();
        x.turn();
        x.prove(2);
        x.keep();
        x.sheet(0, 0, 2);
        x.write(0, 0, 5);
        String before = all(x);
        x.on(16);
        x.when(4);
        x.meshFor();
        x.placeFor(4);
        x.quarrels();
        x.apart(-1);
        x.choir(0);
        same("the rest and quarrels", before, all(x));
        x.best(4);
        x.ith(4, 0);
        x.ways(4);
        x.haul(4, 31);
        x.bars(4, 31);
        same("plans", before, all(x));
        x.game(4);
        x.play(4);
        same("the game", before, all(x));
        x.span(0);
        x.liar();
        x.times(40, 5);
        same("strange voices and lots", before, all(x));
        x.prove(2);
        x.judge();
        x.wouldBe(0, 0, 2);
        x.wouldBe(0, 0, 3);
        same("rows and the host", before, all(x));
        due("score", x.state(2), 18);
    }

    private static void promise48() {
        VoiceNets x = five();
        tell(x, "gull free;");
        x.change(0, 4, 1);
        x.change(3, 4, 1);
        x.report(0, 0, 0);
        x.prove(3);
        x.feed(0, 5);
        x.shelf(0, 0, 1);
        x.act(0, 3, 0);
        int[] many = {5, 1, 2, 1, 3, 5, 5};
        for (int i = 0; i < 7; i++) due("many(" + i + ")", x.many(i), many[i]);
        due("many(7)", x.many(7), BAD);
        due("many(-1)", x.many(-1), BAD);
        due("many(lowest)", x.many(LOW), BAD);
    }

    private static void promises49and50() {
        VoiceNets x = five();
        due("nothing is kept", x.again(), NONE);
        tell(x, "gull free; prayer salt;");
        x.report(1, 0, 7);
        x.tide(3, 2);
        x.set(1, 1);
        x.set(0, 9);
        x.seed(77);
        x.turn();
        due("keep", x.keep(), 1);
        String before = all(x);
        int span = x.span(0);
        x.turn();
        x.lot();
        x.tide(3, 0);
        x.tide(0, 2);
        x.set(0, 16);
        x.set(1, 5);
        tell(x, "voice free;");
        x.forget();
        x.report(0, 15, 15);
        x.report(0, 14, 15);
        x.voice(CHILD, 1, 1, 1);
        x.change(1, 1, 0);
        x.change(1, 2, 1);
        x.change(2, 3, 0);
        x.remake(4, GULL);
        due("again", x.again(), 5);
        same("keep and again", before, all(x));
        due("reports too", x.span(0), span);
        due("a rule", x.voiceOf(3, 8), 1);
        x.turn();
        x.anew();
        due("it stays kept", x.again(), 5);
        same("again twice", before, all(x));
        due("the new one is at sea", x.voice(CHILD, 1, 1, 1), 5);
        due("at sea", x.voiceOf(5, 4), 0);
        x.keep();
        due("the latest", x.again(), 6);

        VoiceNets y = five();
        y.keep();
        y.feed(1, 3);
        y.prove(2);
        y.sheet(0, 0, 4);
        y.write(0, 1, 5);
        y.shelf(0, 0, 3);
        y.act(0, 0, 1);
        due("again", y.again(), 5);
        due("not the tape", y.many(5), 3);
        due("not the rows", y.many(4), 2);
        due("not the sheets", y.item(0, 0, 1), 5);
        due("not the shelves", y.taken(0, 5), 3);
        due("not the trace", y.many(6), 1);
    }

    public static void main(String[] args) {
        part = "1"; promise1();
        part = "2"; promise2();
        part = "3"; promise3();
        part = "4"; promise4();
        part = "5"; promise5();
        part = "6, 7"; promises6and7();
        part = "8"; promise8();
        part = "9"; promise9();
        part = "10"; promise10();
        part = "11"; promise11();
        part = "12"; promise12();
        part = "12, conditions"; conditions();
        part = "13"; promise13();
        part = "14, 15"; promises14and15();
        part = "16, 17"; promises16and17();
        part = "18 to 20"; promise18to20();
        part = "21 to 23"; promise21to23();
        part = "24, 25"; promises24and25();
        part = "26, 27"; promises26and27();
        part = "28 to 31"; promise28to31();
        part = "32 to 34"; promise32to34();
        part = "35 to 38"; promise35to38();
        part = "39 to 41"; promise39to41();
        part = "42, 43"; promises42and43();
        part = "44, 45"; promises44and45();
        part = "46, 47"; promises46and47();
        part = "what is asked"; asked();
        part = "48"; promise48();
        part = "49, 50"; promises49and50();
        System.out.println(wrong == 0 ? asked + " answers are as due" : wrong + " answers are not as due");
        if (wrong != 0) System.exit(1);
    }
}
