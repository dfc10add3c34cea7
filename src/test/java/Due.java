import java.util.NoSuchElementException;
import java.util.concurrent.Callable;

/** What the tests share: answers that are due, and texts put on the tape. */
final class Due {
    static final Class<? extends Exception> INDEX = IndexOutOfBoundsException.class;
    static final Class<? extends Exception> ARGUMENT = IllegalArgumentException.class;
    static final Class<? extends Exception> STATE = IllegalStateException.class;
    static final Class<? extends Exception> ELEMENT = NoSuchElementException.class;
    static final Class<? extends Exception> UNSUPPORTED = UnsupportedOperationException.class;

    private static int wrong = 0;
    private static int asked = 0;
    /** The words of the document that are held just now. */
    private static String words = "";

    private Due() {
    }

    static void is(String call, long got, long want) {
        asked++;
        if (got != want) {
            tell(call + " answered " + got + ", due is " + want);
        }
    }

    static void is(String call, boolean got, boolean want) {
        is(call, got ? 1 : 0, want ? 1 : 0);
    }

    static void fails(String call, Class<? extends Exception> due, Callable<?> what) {
        asked++;
        String got;
        try {
            got = "answered " + what.call();
        } catch (Exception e) {
            got = e.getClass() == due ? "" : "threw " + e;
        }
        if (!got.isEmpty()) {
            tell(call + " " + got + ", due is a " + due.getSimpleName());
        }
    }

    static void same(String call, String got, String want) {
        asked++;
        if (!got.equals(want)) {
            tell(call + " is\n" + got + "\ndue is\n" + want);
        }
    }

    static void note(String complaint) {
        asked++;
        tell(complaint);
    }

    private static void tell(String complaint) {
        wrong++;
        System.out.println(complaint + (words.isEmpty() ? "" : " (" + words + ")"));
    }

    /** What is asked from now on holds these words of the document. */
    static void holds(String wordsOfTheDocument) {
        words = wordsOfTheDocument;
    }

    /** Puts bytes on the tape, in place of what was there. */
    static void put(LostRound x, int... bytes) {
        x.end(0);
        int[] fives = new int[5];
        for (int at = 0; at < bytes.length; at += 20) {
            for (int i = 0; i < 5; i++) {
                fives[i] = 0;
                for (int k = 0; k < 4; k++) {
                    int j = at + 4 * i + k;
                    fives[i] = fives[i] << 8 | (j < bytes.length ? bytes[j] : 0);
                }
            }
            x.feed(fives[0], fives[1], fives[2], fives[3], fives[4]);
        }
        x.end(bytes.length);
    }

    static void put(LostRound x, String text) {
        put(x, text.chars().toArray());
    }

    static int wood(LostRound x, String text) {
        put(x, text);
        return x.wood();
    }

    static int law(LostRound x, String text) {
        put(x, text);
        return x.law();
    }

    /** A new object with texts of the wood told. */
    static LostRound told(String... texts) {
        LostRound x = new LostRound();
        for (String text : texts) {
            wood(x, text);
        }
        return x;
    }

    static void wrongWood(LostRound x, String text, int at) {
        put(x, text);
        fails("wood of '" + text + "'", IllegalArgumentException.class, x::wood);
        is("fault of '" + text + "'", x.fault(), at);
    }

    static void wrongLaw(LostRound x, String text, int at) {
        put(x, text);
        fails("law of '" + text + "'", IllegalArgumentException.class, x::law);
        is("fault of '" + text + "'", x.fault(), at);
    }

    static void close(String test) {
        System.out.println(test + ": " + asked + " asked, " + wrong + " wrong");
        if (wrong != 0) {
            System.exit(1);
        }
    }
}
