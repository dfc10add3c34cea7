import java.lang.reflect.InvocationTargetException;
import java.lang.reflect.Method;
import java.util.ArrayList;
import java.util.Arrays;
import java.util.Comparator;
import java.util.List;
import java.util.Random;

/** Runs of calls by chance (always the same ones), answered by LostRound and by PlainRound. */
final class AgreeTest {
    private static final int CALLS = 400;

    private final Random random;
    private final LostRound one = new LostRound();
    private final PlainRound other = new PlainRound();
    private final List<String> story = new ArrayList<>();

    private AgreeTest(long seed) {
        random = new Random(seed);
    }

    public static void main(String[] args) throws Exception {
        int runs = args.length > 0 ? Integer.parseInt(args[0]) : 150;
        int from = args.length > 1 ? Integer.parseInt(args[1]) : 1;
        for (int seed = from; seed < from + runs; seed++) {
            AgreeTest run = new AgreeTest(seed);
            String parted = run.go();
            Due.is("run " + seed + " agrees" + parted, parted.length(), 0);
        }
        Due.close("AgreeTest");
    }

    private static final Method[] FACE = face();

    private static Method[] face() {
        Method[] face = LostRound.class.getDeclaredMethods();
        Method[] open = Arrays.stream(face).filter(m -> java.lang.reflect.Modifier.isPublic(m.getModifiers())).toArray(Method[]::new);
        Arrays.sort(open, Comparator.comparing(Method::getName));
        return open;
    }

    private int below(int n) {
        return random.nextInt(n);
    }

    private String go() throws Exception {
        List<int[]> texts = new ArrayList<>(List.of(soundText(), woodText()));
        for (int i = below(5); i > 2; i--) {
            texts.add(treesText());
        }
        for (int[] text : texts) {
            String parted = tell(text, "wood");
            if (!parted.isEmpty()) {
                return parted;
            }
        }
        while (story.size() < CALLS) {
            int dice = below(40);
            String parted = dice == 0 ? tell(below(2) == 0 ? woodText() : treesText(), "wood") : dice == 1 ? tell(lawText(), "law")
                : dice == 2 ? tell(bytes(), List.of("sounds", "listen", "ears").get(below(3)))
                : ask(FACE[below(FACE.length)]);
            if (!parted.isEmpty()) {
                return parted;
            }
        }
        return "";
    }

    private String ask(Method m) throws Exception {
        List<String> seldom = List.of("sing", "wood", "law", "feed", "end", "call", "back", "image", "undo");
        if (seldom.contains(m.getName()) && below(3) != 0) {
            return "";
        }
        Object[] args = new Object[m.getParameterCount()];
        for (int i = 0; i < args.length; i++) {
            args[i] = m.getParameterTypes()[i] == boolean.class ? (Object) random.nextBoolean() : (Object) number(m.getName(), i);
        }
        return both(m, args);
    }

    private int number(String name, int i) {
        if (below(40) == 0) {
            return new int[] {-1, Integer.MAX_VALUE, Integer.MIN_VALUE, 101, 64, 121, 17, 16, 8, 6}[below(10)];
        }
        boolean cell = name.equals("cell") && i == 0 || name.equals("fire") || name.equals("plant")
            || name.equals("send") && i == 1 || name.equals("path");
        if (cell) {
            return below(64);
        }
        return switch (name) {
            case "sing" -> below(3) == 0 ? below(122) : 1 + below(9);
            case "trial", "span" -> below(101);
            case "ahead" -> i == 0 ? below(6) : below(101);
            case "can" -> i == 0 ? below(6) : below(18);
            case "odds" -> i == 0 ? below(6) : below(6);
            case "lost" -> i == 0 ? below(6) : below(17);
            case "loud" -> below(17);
            case "seed", "feed" -> random.nextInt();
            case "end" -> below(30);
            case "log" -> i == 0 ? below(1 + below(62)) - below(2) : below(6);
            case "count" -> below(14);
            case "boy" -> i == 0 ? below(6) : below(10);
            case "cell" -> below(4);
            case "tune" -> i == 0 ? below(6) : below(9);
            case "note" -> i == 0 ? below(6) : below(9);
            default -> below(5);
        };
    }

    private String both(Method m, Object... args) throws Exception {
        String got = answer(m, one, args);
        String due = answer(PlainRound.class.getMethod(m.getName(), m.getParameterTypes()), other, args);
        story.add(m.getName() + Arrays.toString(args) + " " + due);
        if (got.equals(due)) {
            return "";
        }
        return ": " + m.getName() + Arrays.toString(args) + " answered " + got + ", due is " + due
            + "\n  behind " + String.join("\n  behind ", story);
    }

    private static String answer(Method m, Object x, Object[] args) throws Exception {
        try {
            return String.valueOf(m.invoke(x, args));
        } catch (InvocationTargetException e) {
            return e.getCause().getClass().getName();
        }
    }

    private String tell(int[] bytes, String by) throws Exception {
        String parted = both(method("end"), 0);
        for (int at = 0; at < bytes.length && parted.isEmpty(); at += 20) {
            Object[] fives = new Object[5];
            for (int i = 0; i < 5; i++) {
                int n = 0;
                for (int k = 0; k < 4; k++) {
                    int j = at + 4 * i + k;
                    n = n << 8 | (j < bytes.length ? bytes[j] : 0);
                }
                fives[i] = n;
            }
            parted = both(method("feed"), fives);
        }
        if (parted.isEmpty()) {
            parted = both(method("end"), bytes.length);
        }
        StringBuilder text = new StringBuilder();
        for (int b : bytes) {
            text.append(b >= 32 && b < 127 ? (char) b : '?');
        }
        story.add("'" + text + "'");
        Object[] args = by.equals("sounds") ? new Object[] {random.nextBoolean()}
            : by.equals("ears") ? new Object[] {below(6)} : new Object[0];
        if (parted.isEmpty()) {
            parted = both(method(by), args);
        }
        return parted.isEmpty() ? both(method("fault")) : parted;
    }

    private static Method method(String name) {
        return Arrays.stream(FACE).filter(m -> m.getName().equals(name)).findFirst().get();
    }

    private int[] bytes() {
        int[] bytes = new int[below(12) == 0 ? below(44) : 2 * below(3)];
        for (int i = 0; i < bytes.length; i++) {
            bytes[i] = below(30) == 0 ? below(256) : i % 2 == 1 ? below(below(2) == 0 ? 2 : 8) : below(31);
        }
        return bytes;
    }

    private String pick(String... of) {
        return of[below(of.length)];
    }

    private int[] woodText() {
        List<String> lines = new ArrayList<>();
        int n = below(15) + (below(20) == 0 ? 3 : 0);
        for (int i = 0; i < n; i++) {
            lines.add(switch (below(12)) {
                case 0, 1 -> "part " + figures();
                case 2, 3 -> "boy at " + below(64) + " sings " + below(2) + " ear " + below(16);
                case 4, 5, 6 -> "trees " + below(64);
                case 7, 8 -> "ferns " + below(64) + " " + below(10);
                case 9 -> "fire " + below(64);
                case 10 -> pick("loud " + below(16), "stray " + below(101));
                default -> pick("beat " + below(8), "night " + below(1000));
            });
        }
        return spoil(String.join(";", lines));
    }

    /** A text in which what a boy rests on is told ahead of him. */
    private int[] soundText() {
        List<String> lines = new ArrayList<>();
        int parts = below(8) == 0 ? 0 : 1 + below(4);
        for (int i = 0; i < parts; i++) {
            lines.add("part " + figures());
        }
        int boys = parts == 0 ? 0 : below(6);
        for (int i = 0; i < boys; i++) {
            lines.add("boy at " + below(64) + " sings " + below(parts) + " ear " + below(1 + below(16)));
        }
        lines.add(pick("stray 0", "stray 100", "stray " + below(101), "beat " + below(8)));
        lines.add(pick("loud 0", "loud " + below(16), "fire " + below(64)));
        return String.join(";", lines).chars().toArray();
    }

    /** Trees and ferns where nothing else is likely to be: on one wall, or all over. */
    private int[] treesText() {
        List<String> lines = new ArrayList<>();
        int wall = below(8);
        boolean isWall = below(2) == 0;
        for (int i = 0; i < 12; i++) {
            int cell = isWall ? 8 * below(8) + wall : below(64);
            lines.add(below(6) == 0 ? "ferns " + cell + " " + below(10) : "trees " + cell);
        }
        return String.join(";", lines.subList(0, 1 + below(12))).chars().toArray();
    }

    private String figures() {
        StringBuilder figures = new StringBuilder();
        int kind = below(4);
        for (int i = 0; i < 8; i++) {
            figures.append(kind == 0 ? 0 : kind == 1 ? below(2) : kind == 2 && below(2) == 0 ? 0 : below(8));
        }
        return below(5) == 0 ? "01020304".substring(2 * below(4)).concat("01020304").substring(0, 8) : figures.toString();
    }

    private int[] lawText() {
        List<String> lines = new ArrayList<>();
        int n = below(4) == 0 ? below(14) : below(4);
        for (int i = 0; i < n; i++) {
            String line = pick("far " + below(8), "near " + below(8), "stay", "far " + below(22));
            lines.add(below(5) == 0 && !line.equals("stay") ? line : line + " if " + condition(below(5)));
        }
        return spoil(String.join(" ; ", lines));
    }

    private String condition(int deep) {
        if (deep == 0 || below(3) == 0) {
            return pick("silent", "ferny", sum() + "<" + sum(), sum() + " > " + sum());
        }
        return switch (below(4)) {
            case 0 -> "not " + pick("silent", "(" + condition(deep - 1) + ")", "not " + sum() + "<" + sum());
            case 1 -> "(" + condition(deep - 1) + ")";
            case 2 -> condition(deep - 1) + " and " + condition(deep - 1);
            default -> condition(deep - 1) + " or " + condition(deep - 1);
        };
    }

    private String sum() {
        String term = pick("boy", "part", "ear", "x", "y", "away", "bad", "beat", "" + below(9), "" + below(9));
        return below(3) == 0 ? term + "+" + sum() : term;
    }

    /** Mostly leaves a text as it is; else one byte is lost, put in, or another one. */
    private int[] spoil(String text) {
        StringBuilder spoilt = new StringBuilder(text);
        if (below(3) == 0) {
            int at = below(text.length() + 1);
            char sign = pick(" ", ";", "(", ")", "not ", "if", "9", "0", "a", "x", "+", "<", "\u00ff", "and", "or").charAt(0);
            switch (below(3)) {
                case 0 -> spoilt.insert(at, sign);
                case 1 -> spoilt.setLength(at);
                default -> spoilt.replace(Math.min(at, text.length()), Math.min(at + 1, text.length()), "" + sign);
            }
        }
        if (spoilt.length() > 400) {
            spoilt.setLength(400);
        }
        return spoilt.chars().toArray();
    }
}
