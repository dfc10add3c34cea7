import java.io.IOException;
import java.lang.reflect.InvocationTargetException;
import java.lang.reflect.Method;
import java.lang.reflect.Modifier;
import java.nio.file.Files;
import java.nio.file.Path;
import java.util.regex.Matcher;
import java.util.regex.Pattern;

/** The calls in README.md answer what stands behind them, and each call of the face is named there. */
final class ReadmeTest {
    private static final Pattern CALL = Pattern.compile("round\\.(\\w+)\\((.*?)\\); *// (-?\\w+)");

    public static void main(String[] args) throws Exception {
        String readme = Files.readString(Path.of("README.md"));
        callsAnswerSo(readme);
        eachCallIsNamed(readme);
        Due.close("ReadmeTest");
    }

    private static void callsAnswerSo(String readme) throws Exception {
        LostRound round = new LostRound();
        Matcher calls = CALL.matcher(readme);
        int found = 0;
        while (calls.find()) {
            found++;
            String answer = answer(round, method(calls.group(1)), calls.group(2));
            if (!answer.isEmpty()) {
                Due.same(calls.group(), answer, calls.group(3));
            }
        }
        Due.is("all lines of the example are calls", found, readme.split("\nround\\.", -1).length - 1);
    }

    /** What a call answers, or the exception that it throws; nothing, if it answers nothing. */
    private static String answer(LostRound round, Method method, String told) throws IllegalAccessException {
        String[] words = told.isEmpty() ? new String[0] : told.split(", ");
        Object[] args = new Object[words.length];
        for (int i = 0; i < args.length; i++) {
            boolean flag = words[i].equals("true") || words[i].equals("false");
            args[i] = flag ? (Object) words[i].equals("true") : (Object) Long.decode(words[i]).intValue();
        }
        try {
            Object answer = method.invoke(round, args);
            return answer == null ? "" : answer.toString();
        } catch (InvocationTargetException e) {
            return e.getCause().getClass().getSimpleName();
        }
    }

    private static Method method(String name) throws IOException {
        for (Method m : LostRound.class.getDeclaredMethods()) {
            if (m.getName().equals(name) && Modifier.isPublic(m.getModifiers())) {
                return m;
            }
        }
        throw new IOException("README.md calls " + name + ", which there is not");
    }

    private static void eachCallIsNamed(String readme) {
        for (Method m : LostRound.class.getDeclaredMethods()) {
            boolean isOpen = Modifier.isPublic(m.getModifiers());
            Due.is("README.md names " + m.getName(), !isOpen || readme.contains("`" + m.getName() + "`"), true);
        }
    }
}
