import java.lang.annotation.ElementType;
import java.lang.annotation.Retention;
import java.lang.annotation.RetentionPolicy;
import java.lang.annotation.Target;
import java.lang.reflect.Method;
import java.util.Map;
import java.util.TreeMap;

/** What the tests of boundary cases have in common: each is a method that bears the sentence to which it holds the class. */
abstract class Edges {
    static final int BAD = -1, FULL = -2, NONE = -3, STATE = -4;
    static final int CHILD = 1, QUARREL = 2, PRAYER = 3, FOGHORN = 4, GULL = 5;
    static final int LOW = Integer.MIN_VALUE, HIGH = Integer.MAX_VALUE;
    static final String[] KINDS = {"voice", "child", "quarrel", "prayer", "foghorn", "gull"};

    private static int asked = 0;
    private static int wrong = 0;
    private static String sentence = "";

    @Retention(RetentionPolicy.RUNTIME)
    @Target(ElementType.METHOD)
    @interface Sentence {
        String value();
    }

    interface Maker {
        VoiceNets make();
    }

    interface Call {
        int on(VoiceNets x);
    }

    static void runAll(Class<?> tests) throws ReflectiveOperationException {
        Map<String, Method> byName = new TreeMap<>();
        for (Method m : tests.getDeclaredMethods()) {
            if (m.isAnnotationPresent(Sentence.class)) byName.put(m.getName(), m);
        }
        for (Map.Entry<String, Method> e : byName.entrySet()) {
            sentence = e.getKey() + ", \"" + e.getValue().getAnnotation(Sentence.class).value() + "\"";
            int before = asked;
            e.getValue().invoke(null);
            check("asks something", asked > before);
        }
        System.out.println(wrong == 0 ? byName.size() + " sentences hold, " + asked + " answers are as due" : wrong + " are not as due");
        if (wrong != 0) System.exit(1);
    }

    static void check(String what, boolean so) {
        asked++;
        if (!so) {
            wrong++;
            System.out.println(sentence + ": " + what);
        }
    }

    static void due(String what, int got, int want) {
        check(what + " answered " + got + ", due is " + want, got == want);
    }

    /** The answer is due, and an object on which the call was made tells all as one on which it was not. */
    static void refused(Maker from, int want, String what, Call call) {
        VoiceNets x = from.make();
        due(what, call.on(x), want);
        unchanged(from, what, x);
    }

    /** What is asked changes nothing, neither. */
    static void asks(Maker from, int want, String what, Call call) {
        refused(from, want, what, call);
    }

    static void unchanged(Maker from, String what, VoiceNets x) {
        String due = told(from.make());
        String is = told(x);
        int at = 0;
        while (at < due.length() && at < is.length() && due.charAt(at) == is.charAt(at)) at++;
        check(what + " changed" + part(due, at) + " to" + part(is, at), is.equals(due));
    }

    private static String part(String told, int at) {
        return " .." + told.substring(Math.max(0, at - 40), Math.min(told.length(), at + 20)) + "..";
    }

    /** Numbers below and above a range, next to it, far away, and such as a narrower number would take for one in it. */
    static int[] outside(int least, int most) {
        return new int[] {least - 1, most + 1, least - 256, most + 256, least + 65536, LOW, LOW + least, HIGH};
    }

    // ---- all that an object can tell; it is spent behind it (fewer than 300 calls)

    static String told(VoiceNets x) {
        StringBuilder s = new StringBuilder();
        tellSea(x, s);
        tellRows(x, s);
        tellSheets(x, s);
        s.append(" the tape ").append(x.rules());
        for (int v = 0; v < 6; v++) s.append(' ').append(x.voiceOf(v, 8));
        s.append(" kept ").append(x.again());
        tellSea(x, s);
        return s.toString();
    }

    private static void tellSea(VoiceNets x, StringBuilder s) {
        for (int v = 0; v < 6; v++) {
            s.append(" voice ").append(v);
            for (int what = 0; what < 9; what++) s.append(' ').append(x.voiceOf(v, what));
        }
        s.append(" state");
        for (int what = 0; what < 6; what++) s.append(' ').append(x.state(what));
        s.append(" many");
        for (int what = 0; what < 7; what++) s.append(' ').append(x.many(what));
        s.append(" tides");
        for (int t = 0; t < 16; t++) s.append(' ').append(x.tideOf(t));
        s.append(" span");
        for (int what = 0; what < 3; what++) s.append(' ').append(x.span(what));
        s.append(" liar ").append(x.liar());
        int z = x.seed(0);
        x.seed(z);
        s.append(" z ").append(z);
    }

    private static void tellRows(VoiceNets x, StringBuilder s) {
        s.append(" rows");
        for (int k = 0; k < 4; k++) for (int what = 0; what < 3; what++) s.append(' ').append(x.row(k, what));
        s.append(" trace");
        for (int i = 0; i < 12; i++) s.append(' ').append(x.trace(i));
    }

    private static void tellSheets(VoiceNets x, StringBuilder s) {
        for (int sheet = 0; sheet < 4; sheet++) {
            int sort = 0;
            while (sort < 4 && x.item(sheet, sort, 0) == -13) sort++;
            s.append(" sheet ").append(sort);
            for (int i = 0; i < 5; i++) s.append(' ').append(x.item(sheet, sort, i));
        }
        for (int shelf = 0; shelf < 4; shelf++) {
            s.append(" shelf");
            for (int as = 0; as < 15; as = as == 5 ? 10 : as + 1) s.append(' ').append(x.taken(shelf, as));
        }
    }

    // ---- objects to begin with

    static VoiceNets bare() {
        return new VoiceNets();
    }

    static VoiceNets one(int kind, int pitch, int strength, int place) {
        VoiceNets x = new VoiceNets();
        x.voice(kind, pitch, strength, place);
        return x;
    }

    /** Nothing drifts, and the net holds all. */
    static VoiceNets still() {
        VoiceNets x = new VoiceNets();
        for (int t = 0; t < 16; t++) x.tide(t, 0);
        x.set(0, 16);
        x.set(1, 0);
        return x;
    }

    /** Gulls at PLACES that no net joins. */
    static VoiceNets gulls(int count) {
        VoiceNets x = still();
        for (int i = 0; i < count; i++) x.voice(GULL, i, 9, 3 * i);
        return x;
    }

    /** Something of everything: five VOICES, two of them CAUGHT, behind TURN 0, with what was kept unlike what is. */
    static VoiceNets rich() {
        VoiceNets x = new VoiceNets();
        x.voice(CHILD, 4, 6, 3);
        x.voice(QUARREL, 5, 8, 4);
        x.voice(FOGHORN, 9, 9, 10);
        x.voice(GULL, 1, 3, 5);
        x.voice(PRAYER, 7, 5, 2);
        // ahead of all that a plan that is tried, and not taken back, could spoil
        x.prove(3);
        x.turn();
        tell(x, "gull free; prayer if place > 2 salt;");
        x.tide(3, 2);
        x.tide(4, 0);
        x.set(0, 9);
        x.set(1, 1);
        x.report(2, 4, 5);
        x.report(0, 1, 2);
        x.seed(77);
        x.keep();
        x.change(2, 1, 0);
        x.tide(5, 2);
        x.seed(78);
        x.alterRow(0, 1, 5);
        feed(x, "gull salt;");
        sheets(x);
        x.shelf(0, 0, 4);
        x.shelf(1, 1, 1);
        x.shelf(3, 0, 3);
        x.act(0, 3, 4);
        return x;
    }

    private static void sheets(VoiceNets x) {
        x.sheet(0, 0, 4);
        int[] acts = {1, 5, 9, 2};
        for (int i = 0; i < 4; i++) x.write(0, i, acts[i]);
        x.sheet(1, 2, 3);
        for (int i = 0; i < 3; i++) x.write(1, i, 1000 + i);
        x.sheet(3, 4, 2);
        x.write(3, 1, 1);
    }

    /** No room for a VOICE, a REPORT, a byte. */
    static VoiceNets full() {
        VoiceNets x = rich();
        x.voice(CHILD, 2, 2, 2);
        for (int i = 0; i < 4; i++) x.report(3 + i, i, 15);
        int bytes = x.many(5);
        while (bytes < 200) bytes = x.feed(0x2020202020202020L, Math.min(8, 200 - bytes));
        return x;
    }

    static VoiceNets over() {
        VoiceNets x = rich();
        x.turn();
        x.set(0, 2);
        return x;
    }

    static void feed(VoiceNets x, String text) {
        for (int i = 0; i < text.length(); i += 8) {
            int n = Math.min(8, text.length() - i);
            long eight = 0;
            for (int k = 0; k < n; k++) eight |= (long) (text.charAt(i + k) & 255) << 8 * k;
            x.feed(eight, n);
        }
    }

    static int tell(VoiceNets x, String text) {
        feed(x, text);
        return x.rules();
    }

    /** A TURN with an ACT: what it was WORTH. */
    static int go(VoiceNets x, int act) {
        x.sheet(3, 0, 1);
        x.write(3, 0, act);
        return x.goAll(3, 0, 1);
    }
}
