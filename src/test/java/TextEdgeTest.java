/** The boundary cases of "Terms", part 2: THE RULES, THE TAPE, FAULTS. */
public final class TextEdgeTest extends Edges {
    private static final String[] TEXT = {"child", "if", "not", "(", "turn", "<", "5", "or", "pitch", "=", "3", ")", "and",
        "1", ">", "0", "salt", ";"};
    /** What can stand behind so many of these: a KIND, a DEED, if, or, and, not, a VALUE, a SIGN, brackets, a semicolon. */
    private static final String[] NEXT = {"K", "iD", "n(V", "n(V", "n(V", "S", "V", "oa)", "n(V", "S", "V", "oa)", "oaD",
        "n(V", "S", "V", "oaD", ";", "K"};
    private static final String[] WORDS = {"voice", "child", "quarrel", "prayer", "foghorn", "gull", "keep", "free", "salt",
        "if", "or", "and", "not", "turn", "pitch", "strength", "place", "number", "0", "9999", "<", "=", ">", "(", ")", ";",
        "12345", "kee", "keeps", "!"};
    private static final String SORTS = "KKKKKKDDDioanVVVVVVVSSS();????";

    public static void main(String[] args) throws ReflectiveOperationException {
        runAll(TextEdgeTest.class);
    }

    private static void fault(VoiceNets x, String text, int at) {
        int before = x.many(1);
        due(text, tell(x, text), -100 - at);
        due("THE RULES stay behind " + text, x.many(1), before);
        due("THE TAPE is used up by " + text, x.many(5), 0);
    }

    private static void taken(VoiceNets x, String text, int rules) {
        due(text, tell(x, text), rules);
        due("THE RULES are those of " + text, x.many(1), rules);
        due("THE TAPE is used up by " + text, x.many(5), 0);
    }

    private static boolean holds(String cond) {
        VoiceNets x = one(CHILD, 4, 6, 3);
        due(cond, tell(x, "child if " + cond + " free;"), 1);
        return x.voiceOf(0, 8) == 1;
    }

    // ---- THE TAPE

    @Sentence("THE TAPE takes bytes, 200 at most")
    static void a1Tape() {
        for (int n = 1; n <= 8; n++) {
            VoiceNets x = bare();
            int has = 0;
            while (has + n <= 200) {
                has += n;
                due("bytes by " + n, x.feed(0, n), has);
            }
            for (int more = 1; more <= 8; more++) {
                if (has + more > 200) due(has + " and " + more, x.feed(0, more), FULL);
            }
            due("it has", x.many(5), has);
            while (has < 200) due("one more", x.feed(0, 1), ++has);
            due("the 201st", x.feed(0, 1), FULL);
            due("it has 200", x.many(5), 200);
        }
        for (int n = 1; n <= 8; n++) {
            int bytes = n;
            refused(Edges::full, FULL, n + " bytes more", x -> x.feed(-1, bytes));
        }
    }

    @Sentence("rules() uses it up")
    static void a2UsedUp() {
        VoiceNets x = bare();
        due("nothing fed", x.rules(), 0);
        taken(x, "voice free;", 1);
        due("nothing any more", x.rules(), 0);
        fault(x, "voice fre", 6);
        due("nothing of what was wrong", tell(x, "voice free;"), 1);
        for (int i = 0; i < 25; i++) x.feed(0, 8);
        due("200 of such as can't stand there", x.rules(), -100);
        due("there is room again", x.feed(0x2020202020202020L, 8), 8);
        due("blanks alone", x.rules(), 0);
    }

    @Sentence("such a call changes nothing (but that THE TAPE is used up by rules())")
    static void a3Refused() {
        String[] wrong = {"gull salt", "x", "gull free; gull fre;", "gull salt; child if ((((1=1)))) salt;"};
        int[] at = {9, 0, 16, 23};
        for (int i = 0; i < 4; i++) {
            String text = wrong[i];
            refused(TextEdgeTest::usedUp, -100 - at[i], text, x -> tell(x, text));
        }
    }

    private static VoiceNets usedUp() {
        VoiceNets x = rich();
        x.rules();
        return x;
    }

    // ---- how many

    @Sentence("8 RULES at most; the first NAME of the ninth RULE can't stand there")
    static void b1Eight() {
        VoiceNets x = bare();
        for (int n = 0; n <= 8; n++) taken(x, "gull keep;".repeat(n), n);
        fault(x, "gull keep;".repeat(9), 80);
        fault(x, "gull keep;".repeat(8) + "  gull", 82);
        fault(x, "gull keep;".repeat(8) + "x", 80);
        fault(x, "gull keep;".repeat(8) + ";", 80);
        taken(x, "gull keep;".repeat(8) + "    ", 8);
        fault(x, "gull keep;".repeat(7) + "gull keep", 79);
        fault(x, "gull keep;".repeat(20), 80);
        due("eight are left", x.many(1), 8);
        taken(x, "", 0);
    }

    @Sentence("NUMBERS 0 to 9999: rows of digits (1 to 4); a NUMBER of more digits can't stand there")
    static void b2Numbers() {
        VoiceNets x = bare();
        String[] good = {"0", "9", "10", "99", "100", "999", "1000", "9999", "0000", "00", "0001"};
        for (String g : good) {
            taken(x, "voice if " + g + " = 1 keep;", 1);
            taken(x, "voice if 1 = " + g + " keep;", 1);
        }
        String[] bad = {"10000", "00000", "00001", "99999", "123456789", "1".repeat(40)};
        for (String b : bad) {
            fault(x, "voice if " + b + " = 1 keep;", 9);
            fault(x, "voice if 1 = " + b + " keep;", 13);
        }
        fault(x, "voice 10000 keep;", 6);
        check("9999 is more than 9998", holds("9999 > 9998"));
        check("9999 is 9999", holds("9999 = 9999"));
        check("0000 is 0", holds("0000 = 0"));
        check("0012 is 12", holds("0012 = 12"));
        check("1000 isn't 0001", !holds("1000 = 0001"));
        check("0 isn't less than 0", !holds("0 < 0"));
        check("0 isn't more than 0", !holds("0 > 0"));
        check("8 is more than 7", holds("0008 > 7"));
    }

    @Sentence("At most 3 \"(\" are open within one another; the fourth \"(\" can't stand there")
    static void b3Brackets() {
        VoiceNets x = bare();
        taken(x, "voice if (1=1) keep;", 1);
        taken(x, "voice if ((1=1)) keep;", 1);
        taken(x, "voice if (((1=1))) keep;", 1);
        fault(x, "voice if ((((1=1)))) keep;", 12);
        fault(x, "voice if (((((1=1))))) keep;", 12);
        fault(x, "voice if not(not(not(not(1=1)))) keep;", 24);
        fault(x, "voice if (((1=1 and (1=1)))) keep;", 20);
        taken(x, "voice if (((1=1)) and ((1=1))) or (((1=1))) keep;", 1);
        taken(x, "voice if (1=1) and (1=1) and (1=1) and (1=1) and (1=1) and (1=1) keep;", 1);
        fault(x, "voice if (((1=1))) or ((((1=1)))) keep;", 25);
        taken(x, "voice if (((1=1))) keep; voice if (((1=1))) keep;", 2);
        fault(x, "voice if (((1=1)) keep;", 18);
        fault(x, "voice if (((1=1)))) keep;", 18);
        fault(x, "voice if (((1=1", 15);
        fault(x, "voice if (((", 12);
        fault(x, "voice if ((((", 12);
    }

    // ---- of what bytes

    @Sentence("NAMES are rows of letters a to z .. both as long as they go; blanks (32) part them")
    static void c1Bytes() {
        for (int c = 0; c < 256; c++) {
            boolean letter = c >= 'a' && c <= 'z';
            boolean digit = c >= '0' && c <= '9';
            VoiceNets x = bare();
            String between = "voice" + (char) c + "keep;";
            due("byte " + c + " between NAMES", tell(x, between), c == 32 ? 1 : letter ? -100 : -105);
            due("byte " + c + " ahead", tell(x, (char) c + "voice keep;"), c == 32 ? 1 : -100);
            due("byte " + c + " behind", tell(x, "voice keep;" + (char) c), c == 32 ? 1 : -111);
            String inside = "voice if 1" + (char) c + "2 keep;";
            int want = c == '<' || c == '=' || c == '>' ? 1 : digit ? -113 : c == 32 ? -111 : -110;
            due("byte " + c + " between NUMBERS", tell(x, inside), want);
            String touching = "voice if turn" + (char) c + "2 keep;";
            int next = c == '<' || c == '=' || c == '>' ? 1 : letter ? -109 : c == 32 ? -114 : -113;
            due("byte " + c + " behind a NAME", tell(x, touching), next);
        }
    }

    @Sentence("blanks stand elsewhere as one likes")
    static void c2Blanks() {
        VoiceNets x = bare();
        taken(x, "voice keep;", 1);
        taken(x, "   voice   keep   ;   ", 1);
        taken(x, "voice if(turn<1)and not(1=1)or pitch>2 keep;gull free;", 2);
        taken(x, "  voice  if  (  turn  <  1  )  and  not  (  1  =  1  )  or  pitch  >  2  keep  ;  gull  free  ;  ", 2);
        taken(x, " ".repeat(189) + "voice keep;", 1);
        taken(x, "voice keep;" + " ".repeat(189), 1);
        taken(x, " ".repeat(200), 0);
        taken(x, " ", 0);
        taken(x, "voice if1<2keep;", 1);
        taken(x, "voice if 1<place or 2=turn and(number>9)free;", 1);
    }

    @Sentence("as long as they go")
    static void c3AsLongAsTheyGo() {
        VoiceNets x = bare();
        fault(x, "voicekeep;", 0);
        fault(x, "voice keepfree;", 6);
        fault(x, "voice ifturn < 1 keep;", 6);
        fault(x, "voice if nota = 1 keep;", 9);
        fault(x, "voice if notturn = 1 keep;", 9);
        fault(x, "voice if 12 34 = 1 keep;", 12);
        fault(x, "voice if turn1 = 1 keep;", 13);
        fault(x, "voice if turn pitch keep;", 14);
        fault(x, "voice if 1 = 1and1 = 1or2 = 2keep salt;", 34);
        taken(x, "voice if 1 = 1and1 = 1or2 = 2keep;", 1);
        fault(x, "voi", 0);
        fault(x, "vo ice keep;", 0);
        fault(x, "voices keep;", 0);
    }

    // ---- FAULT

    @Sentence("FAULT: the place (from 0) of the first byte of the first NAME, NUMBER or other byte that can't stand there")
    static void d1Fault() {
        for (int k = 0; k <= TEXT.length; k++) {
            StringBuilder s = new StringBuilder();
            for (int i = 0; i < k; i++) s.append(TEXT[i]).append(' ');
            String ahead = s.toString();
            VoiceNets x = bare();
            for (int w = 0; w < WORDS.length; w++) {
                String text = ahead + WORDS[w];
                boolean can = NEXT[k].indexOf(SORTS.charAt(w)) >= 0;
                int want = !can ? -100 - ahead.length() : k == TEXT.length - 1 ? 1 : -100 - text.length();
                due(text, tell(x, text), want);
            }
        }
    }

    @Sentence("or the end (how many bytes there are), if more must come")
    static void d2End() {
        VoiceNets x = bare();
        StringBuilder s = new StringBuilder();
        for (int i = 0; i + 1 < TEXT.length; i++) {
            s.append(TEXT[i]);
            fault(x, s.toString(), s.length());
            s.append(' ');
            fault(x, s.toString(), s.length());
        }
        fault(x, "voice" + " ".repeat(195), 200);
        fault(x, " ".repeat(195) + "voice", 200);
        fault(x, " ".repeat(190) + "voice keep", 200);
        fault(x, " ".repeat(199) + "x", 199);
        fault(x, "voice keep;" + " ".repeat(188) + ";", 199);
        fault(x, "x" + " ".repeat(199), 0);
    }

    // ---- COND, FACTS

    @Sentence("COND: ALL { or ALL }; ALL: ONE { and ONE }; ONE: { not } ..")
    static void e1Cond() {
        String[] so = {"1=1", "1<2", "2>1"};
        String[] not = {"1=2", "2<1", "1>2"};
        for (int i = 0; i < 24; i++) {
            boolean a = (i & 1) != 0;
            boolean b = (i & 2) != 0;
            boolean c = (i & 4) != 0;
            int sign = i / 8;
            String p = (a ? so : not)[sign];
            String q = (b ? so : not)[(sign + 1) % 3];
            String r = (c ? so : not)[(sign + 2) % 3];
            check(p + " and " + q + " or " + r, holds(p + " and " + q + " or " + r) == (a && b || c));
            check(p + " or " + q + " and " + r, holds(p + " or " + q + " and " + r) == (a || b && c));
            check("not " + p + " and " + q, holds("not " + p + " and " + q) == (!a && b));
            check("not " + p + " or " + q, holds("not " + p + " or " + q) == (!a || b));
            check("brackets or", holds("(" + p + " or " + q + ") and " + r) == ((a || b) && c));
            check("brackets and", holds(p + " and (" + q + " or " + r + ")") == (a && (b || c)));
            check("not brackets", holds("not (" + p + " and " + q + ") or " + r) == (!(a && b) || c));
            check("not not", holds("not not " + p + " and not not not " + q) == (a && !b));
            check("three deep", holds("not(" + p + " and(" + q + " or not(" + r + " and " + p + ")))") == !(a && (b || !(c && a))));
        }
        String nots = "not ".repeat(40);
        check("forty times not", holds(nots + "1=1"));
        check("forty-one times not", !holds(nots + "not 1=1"));
        check("as many or as there is room for", holds("1=2 or ".repeat(25) + "1=1"));
        check("as many and as there is room for", !holds("1=1 and ".repeat(21) + "1=2"));
        String deep = "1=2 or 1=1 and(1=2 or 1=1 and(1=2 or 1=1 and(1=2 or 1=1 and ";
        check("open at every level", holds(deep + "1=1)))"));
        check("open at every level", !holds(deep + "1=2)))"));
    }

    @Sentence("THE TAPE tells THE RULES (in place of all)")
    static void e5InPlaceOfAll() {
        VoiceNets x = one(CHILD, 4, 6, 3);
        for (int i = 0; i < 10; i++) {
            due("a long one", tell(x, "child if " + "1=2 or ".repeat(24) + "place=" + (i % 2 == 0 ? 3 : 4) + " free;"), 1);
            due("by its end", x.voiceOf(0, 8), i % 2 == 0 ? 1 : 0);
        }
        due("eight", tell(x, "child if 1=2 free;".repeat(7) + "child if 2=2 salt;"), 8);
        due("by the last", x.voiceOf(0, 8), 2);
        due("one", tell(x, "gull keep;"), 1);
        due("by none", x.voiceOf(0, 8), 0);
    }

    @Sentence("SIGN: < | = | >")
    static void e2Signs() {
        for (int a = 0; a < 3; a++) {
            for (int b = 0; b < 3; b++) {
                check(a + " < " + b, holds(a + " < " + b) == (a < b));
                check(a + " = " + b, holds(a + " = " + b) == (a == b));
                check(a + " > " + b, holds(a + " > " + b) == (a > b));
            }
        }
        VoiceNets x = bare();
        fault(x, "voice if 1 <= 2 keep;", 12);
        fault(x, "voice if 1 == 2 keep;", 12);
        fault(x, "voice if 1 =< 2 keep;", 12);
    }

    @Sentence("FACTS: the TURN that goes by; its PITCH, STRENGTH, PLACE then; its number")
    static void e3Facts() {
        int[] strength = {1, 9, 5, 7, 3, 2};
        String[] fact = {"turn", "pitch", "strength", "place", "number"};
        for (int t = 0; t <= 16; t++) {
            for (int f = 0; f < 5; f++) {
                for (int v = 0; v < 6; v += 5) {
                    VoiceNets y = still();
                    for (int u = 0; u < 6; u++) y.voice(CHILD, 9 - u, strength[u], 3 * u);
                    for (int i = 0; i < t; i++) go(y, 0);
                    int is = new int[] {t, 9 - v, strength[v], 3 * v, v}[f];
                    tell(y, "child if " + fact[f] + " = " + is + " free;");
                    due(fact[f] + " of " + v + " in TURN " + t, y.voiceOf(v, 8), 1);
                    tell(y, "child if " + fact[f] + " < " + is + " or " + fact[f] + " > " + is + " free;");
                    due(fact[f] + " of " + v + " in TURN " + t + " is no other", y.voiceOf(v, 8), 0);
                }
            }
        }
    }

    @Sentence("PLACE then")
    static void e4Then() {
        VoiceNets x = one(CHILD, 4, 6, 3);
        tell(x, "child if place = 5 and turn = 0 salt;");
        due("it is at 3 now", x.voiceOf(0, 8), 0);
        due("and at 5 in the net, in TURN 0 yet", x.turn(), 9);
        VoiceNets y = one(CHILD, 4, 6, 3);
        tell(y, "child if place = 3 or turn = 1 salt;");
        due("it is at 3 now", y.voiceOf(0, 8), 2);
        due("and not in the net", y.turn(), 12);
        VoiceNets last = one(CHILD, 4, 6, 3);
        last.set(0, 16);
        tell(last, "child if turn < 15 free; child if turn = 15 salt;");
        for (int t = 0; t < 15; t++) due("freed", last.turn(), 1);
        due("in the last TURN", last.turn(), 9);
    }
}
