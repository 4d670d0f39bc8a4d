import java.io.IOException;
import java.lang.reflect.Constructor;
import java.lang.reflect.Field;
import java.lang.reflect.Method;
import java.lang.reflect.Modifier;
import java.nio.file.Files;
import java.nio.file.Path;
import java.util.ArrayList;
import java.util.List;
import java.util.Set;
import java.util.TreeSet;
import java.util.regex.Matcher;
import java.util.regex.Pattern;

/** The public face, the rules of LANGUAGE.md that can be seen from outside, and that calls make no objects. */
public final class FormTest {
    private static final String[] FACE = {"voice(int,int,int,int)", "voiceOf(int,int)", "change(int,int,int)",
        "remake(int,int)", "tide(int,int)", "tideOf(int)", "set(int,int)", "anew()", "state(int)", "feed(long,int)",
        "rules()", "turn()", "on(int)", "when(int)", "meshFor()", "placeFor(int)", "quarrels()", "apart(int)",
        "choir(int)", "best(int)", "ith(int,int)", "ways(int)", "haul(int,int)", "bars(int,int)", "game(int)",
        "play(int)", "report(int,int,int)", "forget()", "span(int)", "liar()", "seed(int)", "lot()", "times(int,int)",
        "prove(int)", "row(int,int)", "alterRow(int,int,int)", "judge()", "sheet(int,int,int)", "write(int,int,int)",
        "item(int,int,int)", "goAll(int,int,int)", "wouldBe(int,int,int)", "shelf(int,int,int)", "taken(int,int)",
        "act(int,int,int)", "trace(int)", "many(int)", "keep()", "again()"};
    private static final int[] EDGES = {Integer.MIN_VALUE, -101, -16, -2, -1, 0, 1, 2, 3, 4, 5, 6, 9, 10, 14, 15, 16, 40,
        41, 63, 64, Integer.MAX_VALUE};
    private static int wrong = 0;

    private static void check(boolean so, String what) {
        if (!so) {
            wrong++;
            System.out.println(what);
        }
    }

    private static String sign(Method m) {
        StringBuilder s = new StringBuilder(m.getName()).append('(');
        Class<?>[] of = m.getParameterTypes();
        for (int i = 0; i < of.length; i++) s.append(i == 0 ? "" : ",").append(of[i].getSimpleName());
        return s.append(')').toString();
    }

    private static void face() {
        Class<?> c = VoiceNets.class;
        check(Modifier.isPublic(c.getModifiers()) && Modifier.isFinal(c.getModifiers()), "the class is public and final");
        Set<String> due = new TreeSet<>(List.of(FACE));
        Set<String> names = new TreeSet<>();
        for (Method m : c.getDeclaredMethods()) {
            if (Modifier.isPublic(m.getModifiers())) {
                check(due.remove(sign(m)) && m.getReturnType() == int.class, "public, but not of the face: " + m);
                names.add(m.getName());
            }
        }
        check(due.isEmpty(), "missing: " + due);
        for (Method m : c.getDeclaredMethods()) {
            boolean open = Modifier.isPublic(m.getModifiers());
            check(open || Modifier.isPrivate(m.getModifiers()) && !names.contains(m.getName()), "to be private, with a name of its own: " + m);
        }
        for (Field f : c.getDeclaredFields()) {
            boolean constant = List.of("BAD", "FULL", "NONE", "STATE").contains(f.getName());
            check(constant == Modifier.isPublic(f.getModifiers()), "field " + f);
            check(constant || Modifier.isPrivate(f.getModifiers()), "field " + f);
        }
        for (Constructor<?> k : c.getDeclaredConstructors()) {
            check(k.getParameterCount() == 0 && Modifier.isPublic(k.getModifiers()), "constructor " + k);
        }
    }

    private static void inside() {
        Set<String> names = new TreeSet<>();
        for (String s : FACE) names.add(s.substring(0, s.indexOf('(')));
        Class<?>[] classes = VoiceNets.class.getDeclaredClasses();
        check(classes.length <= 12, "classes inside: " + classes.length);
        for (Class<?> c : classes) {
            check(Modifier.isStatic(c.getModifiers()) && !Modifier.isPublic(c.getModifiers()), "class " + c);
            int fields = 0;
            for (Field f : c.getDeclaredFields()) {
                if (!Modifier.isStatic(f.getModifiers())) fields++;
                else check(Modifier.isFinal(f.getModifiers()), "static field " + f);
            }
            check(fields <= 20, "fields of " + c + ": " + fields);
            for (Method m : c.getDeclaredMethods()) {
                check(!names.contains(m.getName()), "a name of the face: " + m);
                check(m.getParameterCount() <= 7, "more than seven parameters: " + m);
            }
        }
    }

    private static void source() throws IOException {
        String text = Files.readString(Path.of("src/main/java/VoiceNets.java"));
        for (int i = 0; i < text.length(); i++) check(text.charAt(i) < 127, "a sign above 126 at " + i);
        String code = text.replaceAll("(?s)/\\*.*?\\*/", "").replaceAll("//[^\n]*", "");
        String[] never = {"\\bthrow\\b", "\\btry\\b", "\\bcatch\\b", "\\bsynchronized\\b", "\\bassert\\b", "->", "::",
            "\\bpackage\\b", "@", "\\bString\\.", "\\bSystem\\.(?!arraycopy)", "\\bMath\\.\\w*Exact", "\\bArrays\\.(?!fill|copyOf)",
            "\\bimport (?!java\\.util\\.(Arrays|ArrayList|List);)", "\\bstatic \\{", "\\bprotected\\b"};
        for (String n : never) {
            Matcher m = Pattern.compile(n).matcher(code);
            check(!m.find(), "the source has " + n);
        }
        int length = 0;
        for (String line : code.split("\n")) {
            boolean begins = line.matches(" {4,8}\\S.*\\) \\{");
            length = begins ? 0 : length + 1;
            check(!line.matches(" {4,8}\\}") || length <= 60, "a method of " + length + " lines ends with " + line);
            if (line.matches(" {4,8}\\}")) length = 0;
        }
    }

    /** Every method with all edges: none may throw, whatever state it is in. */
    private static void edges() throws ReflectiveOperationException {
        List<Method> methods = new ArrayList<>();
        for (Method m : VoiceNets.class.getDeclaredMethods()) if (Modifier.isPublic(m.getModifiers())) methods.add(m);
        java.util.Random chance = new java.util.Random(3);
        for (int run = 0; run < 300; run++) {
            VoiceNets x = new VoiceNets();
            for (int i = 0; i < run % 7; i++) x.voice(1 + chance.nextInt(5), i, 1 + chance.nextInt(9), chance.nextInt(16));
            for (int i = 0; i < 500; i++) {
                Method m = methods.get(chance.nextInt(methods.size()));
                Object[] with = new Object[m.getParameterCount()];
                for (int k = 0; k < with.length; k++) {
                    int e = EDGES[chance.nextInt(EDGES.length)];
                    with[k] = m.getParameterTypes()[k] == long.class ? (Object) (e * 0x0101010101L) : (Object) e;
                }
                m.invoke(x, with);
            }
        }
    }

    /** The room is one for all calls of a run; so no call may make an object. */
    private static void room() {
        java.lang.management.ThreadMXBean bean = java.lang.management.ManagementFactory.getThreadMXBean();
        if (!(bean instanceof com.sun.management.ThreadMXBean)) return;
        com.sun.management.ThreadMXBean counter = (com.sun.management.ThreadMXBean) bean;
        long id = Thread.currentThread().getId();
        long made = 0;
        for (int round = 0; round < 3; round++) {
            VoiceNets x = new VoiceNets();
            long before = counter.getThreadAllocatedBytes(id);
            dearCalls(x);
            made = counter.getThreadAllocatedBytes(id) - before;
        }
        check(made < 1000, "calls made objects of " + made + " bytes");
    }

    private static void dearCalls(VoiceNets x) {
        for (int i = 0; i < 6; i++) x.voice(1 + i % 5, i, 9 - i, i);
        String rule = "quarrel if not (turn < 2 and pitch > 1) or place = 7 salt;";
        for (int i = 0; i < rule.length(); i++) x.feed(rule.charAt(i), 1);
        x.rules();
        x.keep();
        for (int n = 1; n <= 4; n++) {
            x.best(n);
            x.ith(n, 0);
            x.ways(n);
            x.haul(n, 7);
            x.bars(n, 63);
            x.game(n);
            x.play(n);
            x.prove(n);
            x.judge();
            x.times(40, 9);
            x.apart(-1);
            x.choir(0);
            x.meshFor();
            x.placeFor(n);
            x.when(n);
            x.on(16);
            x.report(n, 0, 15);
            x.span(0);
            x.liar();
            x.sheet(n - 1, n, 40);
            x.shelf(n - 1, 0, n);
            x.act(n - 1, 3, 5);
            x.remake(n, 1 + n % 5);
            x.lot();
            x.again();
        }
    }

    public static void main(String[] args) throws IOException, ReflectiveOperationException {
        face();
        inside();
        source();
        edges();
        room();
        System.out.println(wrong == 0 ? "the form is as due" : wrong + " faults of form");
        if (wrong != 0) System.exit(1);
    }
}
