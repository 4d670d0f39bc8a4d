import java.io.IOException;
import java.lang.reflect.Method;
import java.nio.file.Files;
import java.nio.file.Path;
import java.util.regex.Matcher;
import java.util.regex.Pattern;

/** The examples of README.md: each "nets.call(..);  // answer" answers so. */
public final class ReadmeTest {
    private static final Pattern CALL = Pattern.compile("nets\\.(\\w+)\\(([^)]*)\\); +// (-?\\d+)(:.*)?");

    private static Method methodOf(String name) {
        for (Method m : VoiceNets.class.getMethods()) if (m.getName().equals(name)) return m;
        throw new IllegalArgumentException("there is no " + name);
    }

    private static long number(String told) {
        String digits = told.replace("_", "");
        return digits.endsWith("L") ? Long.decode(digits.substring(0, digits.length() - 1)) : Integer.decode(digits);
    }

    private static int answer(VoiceNets nets, String name, String arguments) throws ReflectiveOperationException {
        Method method = methodOf(name);
        Class<?>[] types = method.getParameterTypes();
        String[] told = arguments.isEmpty() ? new String[0] : arguments.split(", *");
        if (told.length != types.length) throw new IllegalArgumentException(name + " takes " + types.length);
        Object[] with = new Object[types.length];
        for (int i = 0; i < types.length; i++) {
            with[i] = types[i] == long.class ? (Object) number(told[i]) : (Object) Math.toIntExact(number(told[i]));
        }
        return (Integer) method.invoke(nets, with);
    }

    public static void main(String[] args) throws IOException, ReflectiveOperationException {
        VoiceNets nets = null;
        int asked = 0;
        int wrong = 0;
        for (String line : Files.readAllLines(Path.of("README.md"))) {
            if (line.equals("VoiceNets nets = new VoiceNets();")) {
                nets = new VoiceNets();
            } else if (line.startsWith("nets.")) {
                Matcher m = CALL.matcher(line);
                boolean so = m.matches() && nets != null && answer(nets, m.group(1), m.group(2)) == Integer.parseInt(m.group(3));
                if (!so) System.out.println("not so: " + line);
                asked++;
                wrong += so ? 0 : 1;
            }
        }
        System.out.println(asked - wrong + " of " + asked + " answers of README.md are so");
        if (wrong != 0 || asked == 0) System.exit(1);
    }
}
