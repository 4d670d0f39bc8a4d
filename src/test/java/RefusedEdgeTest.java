/** What each promise refuses: the last number that is taken, the first that isn't, which refusal stands first, and that nothing changed. */
public final class RefusedEdgeTest extends Edges {
    private static final Maker[] ANY = {Edges::bare, Edges::rich, Edges::full, Edges::over};

    public static void main(String[] args) throws ReflectiveOperationException {
        runAll(RefusedEdgeTest.class);
    }

    interface With {
        int on(VoiceNets x, int n);
    }

    /** BAD for all numbers outside, whatever state it is in. */
    private static void bad(String what, int least, int most, With call) {
        badFor(ANY, what, least, most, call);
    }

    private static void badFor(Maker[] makers, String what, int least, int most, With call) {
        for (Maker m : makers) {
            for (int n : outside(least, most)) refused(m, BAD, what + " " + n, x -> call.on(x, n));
        }
    }

    /** Of rich(), over(): VOICES 0 to 4; of full(): 0 to 5; of bare(): none. */
    private static void badVoice(String what, With call) {
        badFor(new Maker[] {Edges::bare}, what, 0, -1, call);
        badFor(new Maker[] {Edges::rich, Edges::over}, what, 0, 4, call);
        badFor(new Maker[] {Edges::full}, what, 0, 5, call);
        for (int v = 0; v < 6; v++) {
            int n = v;
            refused(Edges::bare, BAD, what + " " + v + " of none", x -> call.on(x, n));
        }
    }

    private static void badSet(String what, With call) {
        badFor(new Maker[] {Edges::bare}, what, 0, 0, call);
        badFor(new Maker[] {Edges::rich, Edges::over}, what, 0, 31, call);
        badFor(new Maker[] {Edges::full}, what, 0, 63, call);
    }

    private static void taken(String what, int least, int most, Maker from, With call) {
        for (int n = least; n <= most; n++) {
            int is = call.on(from.make(), n);
            check(what + " " + n + " is taken, answered " + is, is >= 0);
        }
    }

    // ---- the sea, voices

    @Sentence("VoiceNets(): No VOICES, RULES, REPORTS; nothing is kept")
    static void p01New() {
        for (int what = 0; what <= 6; what++) due("many(" + what + ")", bare().many(what), 0);
        refused(Edges::bare, NONE, "again", x -> x.again());
        due("BAD", VoiceNets.BAD, -1);
        due("FULL", VoiceNets.FULL, -2);
        due("NONE", VoiceNets.NONE, -3);
        due("STATE", VoiceNets.STATE, -4);
    }

    @Sentence("voice: A VOICE of a KIND 1 to 5, at sea: its number. BAD; FULL")
    static void p02Voice() {
        bad("KIND", 1, 5, (x, n) -> x.voice(n, 1, 1, 1));
        bad("PITCH", 0, 9, (x, n) -> x.voice(1, n, 1, 1));
        bad("STRENGTH", 1, 9, (x, n) -> x.voice(1, 1, n, 1));
        bad("PLACE", 0, 15, (x, n) -> x.voice(1, 1, 1, n));
        refused(Edges::rich, BAD, "KIND 0", x -> x.voice(0, 1, 1, 1));
        refused(Edges::full, FULL, "the seventh", x -> x.voice(5, 9, 9, 15));
        taken("KIND", 1, 5, Edges::bare, (x, n) -> x.voice(n, 1, 1, 1));
        taken("PITCH", 0, 9, Edges::bare, (x, n) -> x.voice(1, n, 1, 1));
        taken("STRENGTH", 1, 9, Edges::bare, (x, n) -> x.voice(1, 1, n, 1));
        taken("PLACE", 0, 15, Edges::bare, (x, n) -> x.voice(1, 1, 1, n));
    }

    @Sentence("voiceOf: what = 0 .. 8. BAD")
    static void p03VoiceOf() {
        badVoice("VOICE", (x, v) -> x.voiceOf(v, 0));
        bad("what", 0, 8, (x, n) -> x.voiceOf(0, n));
        taken("what", 0, 8, Edges::rich, (x, n) -> x.voiceOf(4, n));
        taken("VOICE", 0, 5, Edges::full, (x, v) -> x.voiceOf(v, 8));
    }

    @Sentence("change: PITCH (what 1), STRENGTH (2), PLACE (3), whether it is CAUGHT (4: 0, 1) of a VOICE becomes x. BAD")
    static void p04Change() {
        int[] least = {0, 0, 1, 0, 0};
        int[] most = {0, 9, 9, 15, 1};
        for (int what = 1; what <= 4; what++) {
            int w = what;
            badVoice("VOICE, what " + w, (x, v) -> x.change(v, w, 1));
            bad("what " + w + " becomes", least[w], most[w], (x, n) -> x.change(0, w, n));
            taken("what " + w + " becomes", least[w], most[w], Edges::rich, (x, n) -> x.change(4, w, n));
            for (int n = least[w]; n <= most[w]; n++) {
                VoiceNets x = full();
                int was = x.voiceOf(5, w);
                due("what it was", x.change(5, w, n), was);
                due("it is", x.voiceOf(5, w), n);
                due("it was", x.change(5, w, was), n);
                unchanged(Edges::full, "there and back", x);
            }
        }
        bad("what", 1, 4, (x, n) -> x.change(0, n, 1));
        refused(Edges::rich, BAD, "KIND is not for it", x -> x.change(0, 0, 1));
    }

    @Sentence("remake: A VOICE becomes one of another KIND (1 to 5): the KIND that it was. BAD")
    static void p05Remake() {
        badVoice("VOICE", (x, v) -> x.remake(v, 1));
        bad("KIND", 1, 5, (x, n) -> x.remake(0, n));
        for (int from = 1; from <= 5; from++) {
            for (int to = 1; to <= 5; to++) {
                if (from == to) continue;
                int kind = from;
                VoiceNets x = held(from);
                due("the KIND that it was", x.remake(0, to), from);
                due("the KIND", x.voiceOf(0, 0), to);
                for (int what = 1; what <= 4; what++) due("what " + what, x.voiceOf(0, what), new int[] {0, 3, 6, 9, 1}[what]);
                due("the other KIND", x.remake(0, from), to);
                unchanged(() -> held(kind), "there and back", x);
            }
        }
    }

    private static VoiceNets held(int kind) {
        VoiceNets x = one(kind, 3, 6, 9);
        x.change(0, 4, 1);
        return x;
    }

    @Sentence("tide: TIDE of a TURN (0 to 15) becomes x: what it was. BAD")
    static void p06Tide() {
        bad("TURN", 0, 15, (x, t) -> x.tide(t, 1));
        bad("TIDE", 0, 2, (x, n) -> x.tide(0, n));
        bad("TIDE of the last", 0, 2, (x, n) -> x.tide(15, n));
        taken("TURN", 0, 15, Edges::rich, (x, t) -> x.tide(t, 2));
        taken("TIDE", 0, 2, Edges::rich, (x, n) -> x.tide(15, n));
    }

    @Sentence("tideOf: TIDE of a TURN. BAD")
    static void p07TideOf() {
        bad("TURN", 0, 15, (x, t) -> x.tideOf(t));
        taken("TURN", 0, 15, Edges::over, (x, t) -> x.tideOf(t));
    }

    @Sentence("set: END (what 0), MESH (1) becomes x: what it was. BAD; STATE: END were below TURN")
    static void p08Set() {
        bad("what", 0, 1, (x, n) -> x.set(n, 5));
        bad("END", 1, 16, (x, n) -> x.set(0, n));
        bad("MESH", 0, 9, (x, n) -> x.set(1, n));
        for (int turn = 0; turn <= 16; turn++) {
            int t = turn;
            Maker m = () -> {
                VoiceNets x = rich();
                x.set(0, 16);
                while (x.state(0) < t) x.turn();
                if (t == 0) x.anew();
                return x;
            };
            for (int end = 1; end <= 16; end++) {
                int e = end;
                if (e < t) refused(m, STATE, "END " + e + " in TURN " + t, x -> x.set(0, e));
                else due("END " + e + " in TURN " + t, m.make().set(0, e), 16);
            }
            refused(m, BAD, "END 0: no STATE", x -> x.set(0, 0));
        }
    }

    @Sentence("anew: TURN is 0 again, SCORE 0, none is CAUGHT (PLACES stay): what TURN was")
    static void p09Anew() {
        due("in TURN 0", bare().anew(), 0);
        due("OVER", over().anew(), 2);
        VoiceNets x = bare();
        x.set(0, 16);
        for (int t = 0; t < 16; t++) x.turn();
        due("behind the last TURN", x.anew(), 16);
        due("TURN", x.state(0), 0);
        due("not OVER", x.state(3), 0);
        VoiceNets y = full();
        for (int v = 0; v < 6; v++) y.change(v, 4, 1);
        int[] place = new int[6];
        for (int v = 0; v < 6; v++) place[v] = y.voiceOf(v, 3);
        check("there is a SCORE", y.state(2) > 0);
        due("with all CAUGHT", y.anew(), 1);
        due("none is", y.state(4), 0);
        due("SCORE", y.state(2), 0);
        for (int v = 0; v < 6; v++) due("PLACE stays", y.voiceOf(v, 3), place[v]);
        due("END stays", y.state(1), 9);
        due("MESH stays", y.state(5), 1);
    }

    @Sentence("state: what = 0 .. 5. BAD")
    static void p10State() {
        bad("what", 0, 5, (x, n) -> x.state(n));
        taken("what", 0, 5, Edges::over, (x, n) -> x.state(n));
    }

    // ---- the rules

    @Sentence("feed: n bytes (1 to 8) .., the lowest of eight first: how many it has. BAD; FULL: more than 200")
    static void p11Feed() {
        bad("n", 1, 8, (x, n) -> x.feed(-1L, n));
        refused(Edges::full, BAD, "BAD stands first", x -> x.feed(0, 9));
        refused(Edges::full, FULL, "the 201st", x -> x.feed(32, 1));
        for (int n = 1; n <= 8; n++) {
            StringBuilder text = new StringBuilder("gull free; child salt;");
            while (text.length() % n != 0) text.append(' ');
            VoiceNets x = one(CHILD, 0, 1, 0);
            for (int i = 0; i < text.length(); i += n) {
                // what stands above n bytes is no part of it
                long eight = n < 8 ? -1L << 8 * n : 0;
                for (int k = 0; k < n; k++) eight |= (long) text.charAt(i + k) << 8 * k;
                due("by " + n, x.feed(eight, n), i + n);
            }
            due("RULES by " + n, x.rules(), 2);
            due("the second", x.voiceOf(0, 8), 2);
        }
    }

    @Sentence("rules: THE TAPE tells THE RULES (in place of all): how many; -100 less its FAULT")
    static void p12Rules() {
        VoiceNets x = rich();
        due("two", x.many(1), 2);
        due("one in place of all", x.rules(), 1);
        due("of a gull", x.voiceOf(3, 8), 2);
        due("none of a prayer", x.voiceOf(4, 8), 0);
        due("none in place of all", x.rules(), 0);
        due("none of a gull", x.voiceOf(3, 8), 0);
        VoiceNets y = rich();
        y.rules();
        due("the least FAULT", tell(y, "?"), -100);
        due("the greatest", tell(y, "gull" + " ".repeat(196)), -300);
        due("THE RULES stay", y.voiceOf(3, 8), 2);
    }

    // ---- turns

    @Sentence("turn: what it was WORTH. STATE: it is OVER")
    static void p13Turn() {
        refused(Edges::over, STATE, "OVER", x -> x.turn());
        check("not OVER", rich().turn() >= 0);
    }

    @Sentence("on: What n (0 to 16) TURNS of THE REST (fewer, if it is OVER) are WORTH. BAD")
    static void p14On() {
        bad("n", 0, 16, (x, n) -> x.on(n));
        taken("n", 0, 16, Edges::rich, (x, n) -> x.on(n));
        for (int n = 0; n <= 16; n++) {
            int turns = n;
            asks(Edges::over, 0, "OVER, " + n, x -> x.on(turns));
        }
    }

    @Sentence("when: The first TURN of THE REST in which a VOICE is CAUGHT. BAD; NONE (also if it is so now)")
    static void p15When() {
        badVoice("VOICE", (x, v) -> x.when(v));
        refused(Edges::rich, NONE, "CAUGHT now", x -> x.when(0));
        refused(Edges::over, NONE, "OVER", x -> x.when(4));
        VoiceNets x = gulls(6);
        for (int v = 0; v < 6; v++) due("by the least one first", x.when(v), v);
        x.set(0, 4);
        for (int v = 0; v < 6; v++) due("till it is OVER", x.when(v), v < 4 ? v : NONE);
        tell(x, "gull if number = 1 free;");
        for (int v = 0; v < 6; v++) due("one that is freed again and again", x.when(v), v == 0 ? 0 : NONE);
    }

    @Sentence("meshFor: MESH with which THE REST is WORTH most; of several the least")
    static void p16MeshFor() {
        asks(Edges::bare, 0, "no VOICES", x -> x.meshFor());
        asks(Edges::over, 0, "OVER", x -> x.meshFor());
        for (int s = 1; s <= 9; s++) {
            // A gull that slips through leads the net to the prayer; one that is held leaves it to the foghorn, which bursts it.
            VoiceNets x = one(GULL, 0, s, 0);
            x.voice(FOGHORN, 0, 9, 15);
            x.voice(PRAYER, 0, 9, 4);
            for (int m = 0; m <= 9; m++) {
                x.set(1, m);
                due("WORTH with MESH " + m, x.on(16), m >= s && m < 9 ? 12 : 0);
                due("MESH for a gull of " + s, x.meshFor(), s < 9 ? s : 0);
                due("MESH stays", x.state(5), m);
            }
        }
    }

    @Sentence("placeFor: PLACE from which a VOICE makes THE REST WORTH most; of several the least. BAD")
    static void p17PlaceFor() {
        badVoice("VOICE", (x, v) -> x.placeFor(v));
        for (int v = 0; v < 5; v++) {
            int n = v;
            asks(Edges::over, 0, "OVER", x -> x.placeFor(n));
        }
        for (int p = 0; p <= 15; p++) {
            VoiceNets x = still();
            x.set(0, 1);
            x.voice(CHILD, 0, 9, p);
            x.voice(CHILD, 0, 9, 15 - p);
            due("beside the other one, or at it", x.placeFor(0), Math.max(0, 15 - p - 1));
            due("likewise", x.placeFor(1), Math.max(0, p - 1));
            due("its PLACE stays", x.voiceOf(0, 3), p);
        }
        VoiceNets last = still();
        last.set(0, 1);
        last.tide(0, 2);
        last.voice(FOGHORN, 0, 7, 14);
        last.voice(GULL, 0, 9, 0);
        tell(last, "gull salt;");
        due("from the last PLACE alone: ebb takes it 2 less", last.placeFor(1), 15);
        last.change(0, 3, 0);
        due("the least of those that are held to 0, or come to 1", last.placeFor(1), 0);
        last.change(0, 3, 2);
        due("the first that comes to 1", last.placeFor(1), 3);
    }

    // ---- quarrels

    @Sentence("quarrels: How many pairs of VOICES QUARREL")
    static void p18Quarrels() {
        asks(Edges::bare, 0, "none", x -> x.quarrels());
        for (int n = 0; n <= 6; n++) {
            VoiceNets x = gulls(n);
            for (int v = 0; v < n; v++) x.change(v, 1, 5);
            due("all of " + n, x.quarrels(), n * (n - 1) / 2);
        }
    }

    @Sentence("apart: what -1 how many nets, 0 .. 5 the net of that VOICE. BAD: also no such VOICE")
    static void p19Apart() {
        badFor(new Maker[] {Edges::bare}, "what", -1, -1, (x, n) -> x.apart(n));
        badFor(new Maker[] {Edges::rich, Edges::over}, "what", -1, 4, (x, n) -> x.apart(n));
        badFor(new Maker[] {Edges::full}, "what", -1, 5, (x, n) -> x.apart(n));
        taken("what", -1, 5, Edges::full, (x, n) -> x.apart(n));
    }

    @Sentence("choir: what 0 the set, 1 STRENGTH of all in it together. BAD")
    static void p20Choir() {
        bad("what", 0, 1, (x, n) -> x.choir(n));
        taken("what", 0, 1, Edges::bare, (x, n) -> x.choir(n));
    }

    // ---- plans

    @Sentence("best: WORTH of the BEST PLANS of n (0 to 4). BAD")
    static void p21Best() {
        bad("n", 0, 4, (x, n) -> x.best(n));
        taken("n", 0, 4, Edges::full, (x, n) -> x.best(n));
        for (int n = 0; n <= 4; n++) due("OVER", over().best(n), 0);
    }

    @Sentence("ith: The i-th (0 to 3) ACT of the FIRST of them. BAD; NONE: it has not so many")
    static void p22Ith() {
        bad("n", 0, 4, (x, n) -> x.ith(n, 0));
        bad("i", 0, 3, (x, i) -> x.ith(4, i));
        bad("i of a PLAN of none", 0, 3, (x, i) -> x.ith(0, i));
        for (int n = 0; n <= 4; n++) {
            for (int i = 0; i < 4; i++) {
                int of = n;
                int at = i;
                if (i >= n) refused(Edges::full, NONE, "not so many", x -> x.ith(of, at));
                else check("so many", full().ith(n, i) >= 0);
                refused(Edges::over, NONE, "OVER", x -> x.ith(of, at));
            }
        }
    }

    @Sentence("ways: How many of them there are. BAD")
    static void p23Ways() {
        bad("n", 0, 4, (x, n) -> x.ways(n));
        for (int n = 0; n <= 4; n++) due("OVER: the one of no TURNS", over().ways(n), 1);
        for (Maker m : ANY) due("of 0", m.make().ways(0), 1);
    }

    @Sentence("haul: HAUL by n (0 to 4), a set of VOICES (of such as there are). BAD; NONE")
    static void p24Haul() {
        bad("n", 0, 4, (x, n) -> x.haul(n, 0));
        badSet("set", (x, set) -> x.haul(4, set));
        badSet("set, by 0", (x, set) -> x.haul(0, set));
        refused(Edges::rich, BAD, "BAD stands first", x -> x.haul(5, 4));
        refused(Edges::rich, NONE, "by 0", x -> x.haul(0, 4));
        refused(Edges::rich, NONE, "the foghorn", x -> x.haul(4, 31));
        for (Maker m : ANY) for (int n = 0; n <= 4; n++) due("the empty set", m.make().haul(n, 0), 0);
        for (int set = 0; set < 4; set++) due("such as are CAUGHT", rich().haul(4, set), 0);
    }

    @Sentence("bars: BAR likewise. BAD; NONE: each is so behind some")
    static void p25Bars() {
        bad("n", 0, 4, (x, n) -> x.bars(n, 0));
        badSet("set", (x, set) -> x.bars(4, set));
        badSet("set, by 0", (x, set) -> x.bars(0, set));
        for (Maker m : ANY) {
            for (int n = 0; n <= 4; n++) {
                int of = n;
                refused(m, NONE, "the empty set", x -> x.bars(of, 0));
            }
        }
        refused(Edges::rich, NONE, "such as are CAUGHT", x -> x.bars(0, 3));
        due("the foghorn", rich().bars(4, 31), 2);
        due("by 0", rich().bars(0, 24), 3);
    }

    // ---- a game, strange voices, lots

    @Sentence("game: VALUE of a GAME of n (1 to 4). BAD")
    static void p26Game() {
        bad("n", 1, 4, (x, n) -> x.game(n));
        taken("n", 1, 4, Edges::full, (x, n) -> x.game(n));
        for (int n = 1; n <= 4; n++) due("OVER", over().game(n), 0);
    }

    @Sentence("play: The least ACT by which who begins comes to it. BAD; NONE: it is OVER")
    static void p27Play() {
        bad("n", 1, 4, (x, n) -> x.play(n));
        taken("n", 1, 4, Edges::full, (x, n) -> x.play(n));
        for (int n = 1; n <= 4; n++) {
            int of = n;
            refused(Edges::over, NONE, "OVER", x -> x.play(of));
        }
    }

    @Sentence("report: A REPORT: its number. BAD: also MOST below LEAST; FULL")
    static void p28Report() {
        bad("k", 0, 15, (x, n) -> x.report(n, 0, 15));
        bad("LEAST", 0, 15, (x, n) -> x.report(0, n, 15));
        bad("MOST", 0, 15, (x, n) -> x.report(0, 0, n));
        bad("both", 0, 15, (x, n) -> x.report(0, n, n));
        for (Maker m : ANY) {
            for (int least = 1; least <= 15; least++) {
                int from = least;
                refused(m, BAD, "MOST one below LEAST", x -> x.report(15, from, from - 1));
            }
        }
        refused(Edges::full, FULL, "the seventh", x -> x.report(15, 15, 15));
        taken("k", 0, 15, Edges::rich, (x, n) -> x.report(n, n, n));
        taken("LEAST", 0, 15, Edges::bare, (x, n) -> x.report(0, n, 15));
        taken("MOST", 0, 15, Edges::bare, (x, n) -> x.report(0, 0, n));
    }

    @Sentence("forget: There are no REPORTS: how many there were")
    static void p29Forget() {
        asks(Edges::bare, 0, "none", x -> x.forget());
        VoiceNets x = full();
        due("all", x.forget(), 6);
        due("none", x.many(3), 0);
        due("none any more", x.forget(), 0);
        due("all FIT", x.span(0), 80);
        for (int r = 0; r < 6; r++) due("numbered from 0 on", x.report(0, 0, 15), r);
    }

    @Sentence("span: what = 0 how many; 1 KIND, 2 PLACE. BAD; NONE (of 1, 2): there are none")
    static void p30Span() {
        bad("what", 0, 2, (x, n) -> x.span(n));
        taken("what", 0, 2, Edges::bare, (x, n) -> x.span(n));
        Maker none = () -> {
            VoiceNets x = bare();
            x.report(0, 0, 0);
            x.report(0, 1, 1);
            return x;
        };
        asks(none, 0, "how many", x -> x.span(0));
        refused(none, NONE, "KIND", x -> x.span(1));
        refused(none, NONE, "PLACE", x -> x.span(2));
    }

    @Sentence("liar: LIAR. NONE: some FIT; or there is no such REPORT")
    static void p31Liar() {
        refused(Edges::bare, NONE, "all FIT", x -> x.liar());
        Maker some = () -> {
            VoiceNets x = bare();
            x.report(0, 15, 15);
            return x;
        };
        refused(some, NONE, "some FIT", x -> x.liar());
        Maker none = () -> {
            VoiceNets x = bare();
            for (int p = 0; p < 3; p++) x.report(0, p, p);
            return x;
        };
        refused(none, NONE, "no such REPORT", x -> x.liar());
    }

    @Sentence("seed: z becomes v: what it was")
    static void p32Seed() {
        int[] seeds = {0, 1, -1, BAD, FULL, HIGH, LOW};
        VoiceNets x = bare();
        int was = 1;
        for (int s : seeds) {
            due("z was", x.seed(s), was);
            was = s;
        }
        due("z was", x.seed(1), LOW);
    }

    @Sentence("lot: A TURN by LOT: what it was WORTH. STATE: it is OVER")
    static void p33Lot() {
        refused(Edges::over, STATE, "OVER", x -> x.lot());
        check("not OVER", rich().lot() >= 0);
    }

    @Sentence("times: n (1 to 40) times all TURNS yet by LOT, .. are WORTH v (0 to 999) or more (all is as it was in the end, z, too). BAD")
    static void p34Times() {
        bad("n", 1, 40, (x, n) -> x.times(n, 0));
        bad("v", 0, 999, (x, v) -> x.times(1, v));
        for (int n = 1; n <= 40; n++) {
            int times = n;
            asks(Edges::rich, n, "WORTH 0 or more", x -> x.times(times, 0));
            asks(Edges::rich, 0, "WORTH 999", x -> x.times(times, 999));
            asks(Edges::over, n, "OVER: WORTH 0", x -> x.times(times, 0));
            asks(Edges::over, 0, "OVER: not 1", x -> x.times(times, 1));
            for (int v = 0; v <= 17; v++) {
                int worth = v;
                asks(RefusedEdgeTest::lots, byLot(n, v), n + " times, WORTH " + v, x -> x.times(times, worth));
            }
        }
    }

    private static final int SEED = 20061119;

    /** Two gulls, freed by each net, all sixteen TURNS. */
    private static VoiceNets lots() {
        VoiceNets x = gulls(2);
        tell(x, "gull free;");
        x.seed(SEED);
        return x;
    }

    private static int byLot(int n, int v) {
        int z = SEED;
        int enough = 0;
        for (int i = 0; i < n; i++) {
            int worth = 0;
            for (int t = 0; t < 16; t++) {
                z = z * 1103515245 + 12345;
                if ((z >>> 16) % 3 != 0) worth++;
            }
            if (worth >= v) enough++;
        }
        return enough;
    }

    // ---- rows

    @Sentence("prove: ROWS of the FIRST of the BEST PLANS of n (0 to 4): how many. BAD")
    static void p35Prove() {
        bad("n", 0, 4, (x, n) -> x.prove(n));
        for (int n = 0; n <= 4; n++) {
            due("how many", full().prove(n), n);
            VoiceNets x = over();
            due("OVER: no ROWS", x.prove(n), 0);
            due("none", x.many(4), 0);
            due("none", x.row(0, 0), -9);
        }
    }

    private static final Maker[] THREE_ROWS = {Edges::rich, Edges::full, Edges::over};

    @Sentence("row: what = 0 ACT, 1 WORTH, 2 those CAUGHT. -9: there is none such, another what")
    static void p36Row() {
        for (Maker m : THREE_ROWS) {
            for (int k : outside(0, 2)) for (int w = 0; w < 3; w++) {
                int what = w;
                refused(m, -9, "ROW " + k, x -> x.row(k, what));
            }
            for (int w : outside(0, 2)) refused(m, -9, "what " + w, x -> x.row(2, w));
            for (int k = 0; k < 3; k++) for (int w = 0; w < 3; w++) check("there is one", m.make().row(k, w) >= 0);
        }
        refused(Edges::bare, -9, "no ROWS", x -> x.row(0, 0));
    }

    @Sentence("alterRow: It becomes v: what it was. -9 likewise")
    static void p37AlterRow() {
        for (Maker m : THREE_ROWS) {
            for (int k : outside(0, 2)) for (int w = 0; w < 3; w++) {
                int what = w;
                refused(m, -9, "ROW " + k, x -> x.alterRow(k, what, 7));
            }
            for (int w : outside(0, 2)) refused(m, -9, "what " + w, x -> x.alterRow(2, w, 7));
            for (int k = 0; k < 3; k++) for (int w = 0; w < 3; w++) {
                VoiceNets x = m.make();
                int was = x.row(k, w);
                due("what it was", x.alterRow(k, w, LOW), was);
                due("it is", x.row(k, w), LOW);
                due("it was", x.alterRow(k, w, HIGH), LOW);
                due("it was", x.alterRow(k, w, was), HIGH);
                unchanged(m, "there and back", x);
            }
        }
        refused(Edges::bare, -9, "no ROWS", x -> x.alterRow(0, 0, 0));
    }

    @Sentence("judge: 0 all is right; else the first ROW that isn't, and 1 more")
    static void p38Judge() {
        asks(Edges::bare, 0, "no ROWS", x -> x.judge());
        asks(Edges::rich, 1, "the first, which was altered", x -> x.judge());
        asks(Edges::over, 1, "OVER", x -> x.judge());
        for (int n = 0; n <= 4; n++) {
            VoiceNets x = rich();
            x.prove(n);
            due("all is right of " + n, x.judge(), 0);
            for (int k = n - 1; k >= 0; k--) {
                x.alterRow(k, 1, -1);
                due("ROW " + k, x.judge(), k + 1);
            }
        }
    }

    // ---- the host

    @Sentence("sheet: A SHEET becomes a row of n of a sort, or missing (sort -1; n counts nothing then). BAD: no such SHEET, sort, n above 40; -14")
    static void p39Sheet() {
        bad("SHEET", 0, 3, (x, s) -> x.sheet(s, 0, 1));
        bad("SHEET to be missing", 0, 3, (x, s) -> x.sheet(s, -1, 1));
        bad("sort", -1, 4, (x, sort) -> x.sheet(0, sort, 1));
        for (Maker m : ANY) {
            for (int sort = 0; sort <= 4; sort++) {
                int of = sort;
                for (int n : new int[] {41, 42, 256, 65537, HIGH}) refused(m, BAD, n + " of " + sort, x -> x.sheet(3, of, n));
                for (int n : new int[] {-1, -2, -40, -256, LOW}) refused(m, -14, n + " of " + sort, x -> x.sheet(3, of, n));
            }
            refused(m, BAD, "no such SHEET stands first", x -> x.sheet(4, 0, -1));
            refused(m, BAD, "no such sort stands first", x -> x.sheet(0, 5, -1));
            refused(m, BAD, "no such sort stands first", x -> x.sheet(0, -2, -1));
        }
        for (int n : new int[] {LOW, -41, -1, 0, 1, 40, 41, HIGH}) {
            VoiceNets x = rich();
            due("missing, n " + n, x.sheet(0, -1, n), 1);
            due("it is", x.item(0, 0, 0), -11);
        }
    }

    @Sentence("write: Item i becomes v, narrowed to its sort: 1. BAD: no such SHEET; -11; -12")
    static void p40Write() {
        bad("SHEET", 0, 3, (x, s) -> x.write(s, 0, 1));
        bad("SHEET, and no such item", 0, 3, (x, s) -> x.write(s, 99, 1));
        for (Maker m : THREE_ROWS) {
            for (int i : outside(0, 3)) refused(m, -12, "item " + i, x -> x.write(0, i, 1));
            for (int i : outside(0, 2)) refused(m, -12, "item " + i, x -> x.write(1, i, 1));
            for (int i : outside(0, 1)) refused(m, -12, "item " + i, x -> x.write(3, i, 1));
            for (int i : new int[] {LOW, -1, 0, 1, 40, HIGH}) refused(m, -11, "missing, item " + i, x -> x.write(2, i, 1));
        }
    }

    @Sentence("item: Item i, taken for a sort (0 to 4). BAD: no such SHEET, sort; -13; -11; -12. (An item may be as low as these, too.)")
    static void p41Item() {
        bad("SHEET", 0, 3, (x, s) -> x.item(s, 0, 0));
        bad("sort", 0, 4, (x, sort) -> x.item(0, sort, 0));
        bad("sort of a missing one", 0, 4, (x, sort) -> x.item(2, sort, 0));
        for (Maker m : THREE_ROWS) {
            for (int sort = 0; sort <= 4; sort++) {
                int as = sort;
                if (sort != 0) refused(m, -13, "bytes as " + sort, x -> x.item(0, as, 0));
                if (sort != 0) refused(m, -13, "bytes as " + sort + ": -13 stands first", x -> x.item(0, as, 4));
                if (sort != 2) refused(m, -13, "ints as " + sort, x -> x.item(1, as, 0));
                if (sort != 4) refused(m, -13, "booleans as " + sort + ": -13 stands first", x -> x.item(3, as, -1));
                refused(m, -11, "missing as " + sort, x -> x.item(2, as, 0));
                refused(m, -11, "missing as " + sort + ": -11 stands first", x -> x.item(2, as, -1));
            }
            for (int i : outside(0, 3)) refused(m, -12, "item " + i, x -> x.item(0, 0, i));
            for (int i : outside(0, 2)) refused(m, -12, "item " + i, x -> x.item(1, 2, i));
            for (int i : outside(0, 1)) refused(m, -12, "item " + i, x -> x.item(3, 4, i));
        }
        for (int v = -16; v < 0; v++) {
            VoiceNets x = rich();
            x.write(0, 3, v);
            due("as low as these", x.item(0, 0, 3), v);
        }
    }

    @Sentence("goAll: n (0 to 20) items .., from item i on, are ACTS. BAD: no such SHEET, n; -13; -11")
    static void p42GoAll() {
        bad("SHEET", 0, 3, (x, s) -> x.goAll(s, 0, 1));
        bad("n", 0, 20, (x, n) -> x.goAll(0, 0, n));
        bad("n of a missing SHEET", 0, 20, (x, n) -> x.goAll(2, 0, n));
        bad("n of another sort", 0, 20, (x, n) -> x.goAll(1, 0, n));
        for (Maker m : THREE_ROWS) {
            for (int n : new int[] {0, 1, 20}) {
                for (int i : new int[] {0, 1, -1, 40, HIGH, LOW}) {
                    refused(m, -13, "ints", x -> x.goAll(1, i, n));
                    refused(m, -13, "booleans", x -> x.goAll(3, i, n));
                    refused(m, -11, "missing", x -> x.goAll(2, i, n));
                }
            }
            for (int i : outside(0, 3)) {
                refused(m, -12, "from " + i, x -> x.goAll(0, i, 1));
                refused(m, -12, "20 from " + i, x -> x.goAll(0, i, 20));
                refused(m, 0, "none from " + i, x -> x.goAll(0, i, 0));
            }
            for (int i = 0; i <= 4; i++) {
                int from = i;
                refused(m, 0, "none from " + i, x -> x.goAll(0, from, 0));
            }
        }
    }

    @Sentence("(what is none, or when it is OVER, is left out) .. -12: what stood ahead was done")
    static void p42GoAllDone() {
        VoiceNets x = acts(20, 1);
        due("20 items, 16 TURNS", x.goAll(0, 0, 20), 16);
        due("OVER", x.state(3), 1);
        due("OVER: left out", x.goAll(0, 0, 20), 0);
        due("SCORE", x.state(2), 16);
        for (int n = 0; n <= 16; n++) {
            VoiceNets y = acts(n, 1);
            due("one item more than there are", y.goAll(0, 0, n + 1), -12);
            due("what stood ahead was done", y.state(0), n);
            due("SCORE", y.state(2), n);
            VoiceNets z = acts(n, 1);
            due("all there are", z.goAll(0, 0, n), n);
            due("TURN", z.state(0), n);
        }
        int[] none = {-128, -1, 2, 3, 127};
        for (int act : none) {
            VoiceNets y = acts(5, 1);
            y.write(0, 0, act);
            y.write(0, 4, act);
            due("what is none is left out", y.goAll(0, 0, 5), 3);
            due("no TURN goes by for it", y.state(0), 3);
        }
        VoiceNets y = acts(5, 0);
        y.write(0, 4, 1);
        due("the last alone", y.goAll(0, 4, 1), 1);
        due("no nets", y.goAll(0, 0, 4), 0);
        due("but TURNS", y.state(0), 5);
        VoiceNets full = acts(40, 1);
        due("from 39", full.goAll(0, 39, 1), 1);
        due("from 20", full.goAll(0, 20, 3), 3);
        due("from 39, two", full.goAll(0, 39, 2), -12);
        due("the one was done", full.state(0), 5);
        VoiceNets all = gulls(6);
        all.sheet(0, 0, 8);
        for (int i = 0; i < 8; i++) all.write(0, i, i);
        due("each ACT, and one that is none", all.goAll(0, 0, 8), 0);
        due("TURNS", all.state(0), 7);
        due("all are CAUGHT", all.state(4), 63);
    }

    /** A gull that is freed each time, and a SHEET of so many bytes alike. */
    private static VoiceNets acts(int n, int act) {
        VoiceNets x = still();
        x.voice(GULL, 0, 9, 8);
        tell(x, "gull free;");
        x.sheet(0, 0, n);
        for (int i = 0; i < n; i++) x.write(0, i, act);
        return x;
    }

    @Sentence("wouldBe: n (0 to 20) items likewise. BAD: no such SHEET, n; -13; -11; then, by items, -12; STATE")
    static void p43WouldBe() {
        bad("SHEET", 0, 3, (x, s) -> x.wouldBe(s, 0, 1));
        bad("n", 0, 20, (x, n) -> x.wouldBe(0, 0, n));
        bad("n of a missing SHEET", 0, 20, (x, n) -> x.wouldBe(2, 0, n));
        bad("n of another sort", 0, 20, (x, n) -> x.wouldBe(1, 0, n));
        for (Maker m : THREE_ROWS) {
            for (int n : new int[] {0, 1, 20}) {
                for (int i : new int[] {0, 1, -1, 40, HIGH, LOW}) {
                    refused(m, -13, "ints", x -> x.wouldBe(1, i, n));
                    refused(m, -13, "booleans", x -> x.wouldBe(3, i, n));
                    refused(m, -11, "missing", x -> x.wouldBe(2, i, n));
                }
            }
            for (int i : outside(0, 3)) {
                refused(m, -12, "from " + i, x -> x.wouldBe(0, i, 1));
                refused(m, -12, "20 from " + i, x -> x.wouldBe(0, i, 20));
                asks(m, 0, "none from " + i, x -> x.wouldBe(0, i, 0));
            }
        }
        // items 1, 5, 9, 2
        refused(Edges::rich, STATE, "9 is no ACT", x -> x.wouldBe(0, 0, 3));
        refused(Edges::rich, STATE, "ahead of an item outside", x -> x.wouldBe(0, 0, 5));
        refused(Edges::rich, STATE, "the first", x -> x.wouldBe(0, 2, 1));
        refused(Edges::rich, -12, "behind the last", x -> x.wouldBe(0, 3, 2));
        refused(Edges::over, STATE, "OVER", x -> x.wouldBe(0, 0, 1));
        refused(Edges::over, STATE, "OVER ahead of one outside", x -> x.wouldBe(0, 3, 2));
        asks(Edges::over, 0, "OVER, but no items", x -> x.wouldBe(0, 0, 0));
        due("16 TURNS", acts(20, 1).wouldBe(0, 0, 16), 16);
        due("a TURN more", acts(20, 1).wouldBe(0, 0, 17), STATE);
        due("an item more", acts(15, 1).wouldBe(0, 0, 16), -12);
        due("the last alone", acts(40, 1).wouldBe(0, 39, 1), 1);
        for (int act : new int[] {-128, -1, 2, 127}) due("no ACT", acts(20, act).wouldBe(0, 0, 1), STATE);
        due("no nets", acts(20, 0).wouldBe(0, 0, 16), 0);
        refused(() -> acts(20, 1), 16, "it would be, only", x -> x.wouldBe(0, 4, 16));
    }

    @Sentence("shelf: A SHELF holds VOICE n (what 0), the row of SHEET n (1; nothing, if missing), nothing (2): 1. BAD: no such SHELF, what, thing")
    static void p44Shelf() {
        bad("SHELF for nothing", 0, 3, (x, s) -> x.shelf(s, 2, 0));
        bad("SHELF for a row", 0, 3, (x, s) -> x.shelf(s, 1, 0));
        bad("SHELF for a VOICE", 0, 3, (x, s) -> x.shelf(s, 0, 0));
        bad("what", 0, 2, (x, what) -> x.shelf(0, what, 0));
        badVoice("VOICE", (x, v) -> x.shelf(0, 0, v));
        bad("SHEET", 0, 3, (x, n) -> x.shelf(0, 1, n));
        for (int n : new int[] {LOW, -1, 0, 4, 6, HIGH}) {
            VoiceNets x = rich();
            due("nothing, with n " + n, x.shelf(0, 2, n), 1);
            due("it is", x.taken(0, 0), -11);
        }
        for (int s = 0; s < 4; s++) {
            VoiceNets x = rich();
            due("missing", x.shelf(s, 1, 2), 1);
            due("nothing", x.taken(s, 10), -11);
            due("the last SHEET", x.shelf(s, 1, 3), 1);
            due("a row", x.taken(s, 14), 2);
        }
        refused(Edges::bare, 1, "nothing for nothing", x -> x.shelf(3, 1, 3));
    }

    @Sentence("taken: .. for a thing of KIND as (0 to 5, or one under it): its number; for a row of sort as - 10 (as 10 to 14). BAD; -13; -11")
    static void p45Taken() {
        bad("SHELF", 0, 3, (x, s) -> x.taken(s, 0));
        for (int s = 0; s < 4; s++) {
            int on = s;
            bad("as", 0, 14, (x, as) -> x.taken(on, as));
            for (int as = 6; as <= 9; as++) {
                int other = as;
                for (Maker m : ANY) refused(m, BAD, "as " + as, x -> x.taken(on, other));
            }
        }
        // of rich(): a prayer, a row of ints, nothing, a gull
        int[][] due = {{4, -13, 4, 4, -13, -13, -13, -13, -13, -13, -13}, {-13, -13, -13, -13, -13, -13, -13, -13, 3, -13, -13},
            {-11, -11, -11, -11, -11, -11, -11, -11, -11, -11, -11}, {3, -13, -13, -13, 3, 3, -13, -13, -13, -13, -13}};
        for (int s = 0; s < 4; s++) {
            for (int i = 0; i < 11; i++) {
                int on = s;
                int as = i < 6 ? i : i + 4;
                refused(Edges::rich, due[s][i], "SHELF " + s + " as " + as, x -> x.taken(on, as));
            }
        }
    }

    @Sentence("act: An ACT (0 to 3) of the thing on a SHELF, with x. 0, and no TRACE then: no such SHELF, act, nothing, a row")
    static void p46Act() {
        for (int s : outside(0, 3)) noAct("SHELF " + s, x -> x.act(s, 0, 4));
        for (int act : outside(0, 3)) noAct("act " + act, x -> x.act(0, act, 4));
        for (int act = 0; act <= 3; act++) {
            int of = act;
            noAct("a row, act " + act, x -> x.act(1, of, 4));
            noAct("nothing, act " + act, x -> x.act(2, of, 4));
            VoiceNets x = rich();
            x.act(0, act, 4);
            check("there is a TRACE", x.many(6) > 0);
            x.act(3, act, 4);
            check("there is a TRACE", x.many(6) > 0);
        }
    }

    /** The latest act() of rich() again, so that all but THE TRACE can be held against it. */
    private static void noAct(String what, Call call) {
        VoiceNets x = rich();
        check("there is a TRACE", x.many(6) > 0);
        due(what, call.on(x), 0);
        due("no TRACE", x.many(6), 0);
        for (int i = 0; i < 30; i++) due("no body", x.trace(i), NONE);
        x.act(0, 3, 4);
        unchanged(Edges::rich, what, x);
    }

    @Sentence("trace: THE TRACE's i-th body. NONE")
    static void p47Trace() {
        due("the prayer's", rich().many(6), 11);
        for (int i : outside(0, 10)) refused(Edges::rich, NONE, "body " + i, x -> x.trace(i));
        for (int i : new int[] {29, 30, 31}) refused(Edges::rich, NONE, "body " + i, x -> x.trace(i));
        for (int i : outside(0, -1)) refused(Edges::bare, NONE, "none at all " + i, x -> x.trace(i));
        taken("body", 0, 10, Edges::rich, (x, i) -> x.trace(i));
    }

    @Sentence("many: what = 0 VOICES .. 6 bodies of THE TRACE. BAD: another what")
    static void p48Many() {
        bad("what", 0, 6, (x, n) -> x.many(n));
        int[] rich = {5, 2, 2, 2, 3, 10, 11};
        int[] full = {6, 2, 2, 6, 3, 200, 11};
        for (int what = 0; what <= 6; what++) {
            due("none, " + what, bare().many(what), 0);
            due("some, " + what, rich().many(what), rich[what]);
            due("full, " + what, full().many(what), full[what]);
        }
        VoiceNets x = full();
        for (int v = 0; v < 6; v++) x.change(v, 4, 1);
        due("all CAUGHT", x.many(2), 6);
        due("all four ROWS", x.prove(4), 4);
        due("ROWS", x.many(4), 4);
        due("RULES", tell(x, "") == 1 ? tell(x, "gull keep;".repeat(8)) : 0, 8);
        due("RULES", x.many(1), 8);
    }

    // ---- kept

    @Sentence("keep: All but THE TAPE, ROWS, SHEETS, SHELVES, THE TRACE is kept: 1")
    static void p49Keep() {
        for (Maker m : ANY) {
            VoiceNets x = m.make();
            due("keep", x.keep(), 1);
            due("keep once more", x.keep(), 1);
            int voices = x.many(0);
            String sea = seaOf(m.make());
            due("it is as it was", seaOf(x).equals(sea) ? 1 : 0, 1);
            due("again", x.again(), voices);
            due("what was kept", seaOf(x).equals(sea) ? 1 : 0, 1);
        }
    }

    /** What keep() keeps, but for what again() would bring. */
    private static String seaOf(VoiceNets x) {
        StringBuilder s = new StringBuilder();
        for (int v = 0; v < 6; v++) for (int what = 0; what < 9; what++) s.append(x.voiceOf(v, what)).append(' ');
        for (int what = 0; what < 6; what++) s.append(x.state(what)).append(' ');
        for (int t = 0; t < 16; t++) s.append(x.tideOf(t)).append(' ');
        for (int what = 0; what < 4; what++) s.append(x.many(what)).append(' ');
        for (int what = 0; what < 3; what++) s.append(x.span(what)).append(' ');
        int z = x.seed(0);
        x.seed(z);
        return s.append(x.liar()).append(' ').append(z).toString();
    }

    @Sentence("each of all that is kept comes again by itself")
    static void p49EachOf() {
        Call[] changes = {x -> x.voice(1, 1, 1, 1), x -> x.change(0, 1, 9), x -> x.change(0, 2, 9), x -> x.change(0, 3, 9),
            x -> x.change(0, 4, 0), x -> x.change(4, 4, 1), x -> x.remake(0, 5), x -> x.tide(0, 2), x -> x.tide(15, 2),
            x -> x.set(0, 16), x -> x.set(1, 9), x -> x.anew(), x -> x.turn(), x -> x.lot(), x -> x.seed(5),
            x -> x.rules(), x -> x.report(15, 15, 15), x -> x.forget(), x -> go(x, 5),
            x -> others(x, 2, 4, 6), x -> others(x, 3, 4, 5), x -> others(x, 2, 0, 5),
            x -> tell(x, "voice if place > 9 free;"), x -> tell(x, "gull if 5 < 4 or pitch = 0 keep; voice if 1 < 0 keep;")};
        for (int i = 0; i < changes.length; i++) {
            VoiceNets x = rich();
            x.keep();
            String before = seaOf(x);
            changes[i].on(x);
            check("change " + i + " is one", !seaOf(x).equals(before));
            due("again", x.again(), 5);
            check("change " + i + " is undone", seaOf(x).equals(before));
        }
        Call[] others = {x -> x.feed(32, 1), x -> x.prove(1), x -> x.alterRow(0, 0, 9), x -> x.sheet(1, 0, 5),
            x -> x.write(0, 0, 77), x -> x.shelf(0, 1, 1), x -> x.act(3, 0, 5)};
        for (int i = 0; i < others.length; i++) {
            VoiceNets x = kept();
            VoiceNets y = kept();
            others[i].on(x);
            others[i].on(y);
            x.again();
            check("other " + i + " stays", told(x).equals(told(y)));
        }
    }

    /** REPORTS as there were, but for the first. */
    private static int others(VoiceNets x, int k, int least, int most) {
        x.forget();
        x.report(k, least, most);
        return x.report(0, 1, 2);
    }

    private static VoiceNets kept() {
        VoiceNets x = rich();
        x.keep();
        return x;
    }

    @Sentence("again: It becomes what was kept latest (which stays): how many VOICES. NONE: nothing is kept")
    static void p50Again() {
        refused(Edges::bare, NONE, "nothing is kept", x -> x.again());
        refused(RefusedEdgeTest::lots, NONE, "nothing of these is kept", x -> x.again());
        VoiceNets x = bare();
        for (int n = 0; n <= 6; n++) {
            x.keep();
            for (int i = 0; i < 3; i++) {
                x.voice(CHILD, 1, 1, 1);
                x.anew();
                due("how many", x.again(), n);
                due("VOICES", x.many(0), n);
            }
            x.voice(GULL, n, 9, n);
        }
        due("what was kept latest", x.again(), 6);
        VoiceNets y = kept();
        y.again();
        unchanged(RefusedEdgeTest::kept, "again at once", y);
    }
}
