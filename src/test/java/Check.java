import java.nio.charset.StandardCharsets;
import java.util.Objects;

/** What the tests of the project share: an object to talk to in texts, and counting what was wrong. */
final class Check {
    private static int checks;
    private static int wrong;
    private static int sentences;
    private static String sentence;
    private static int checksAhead;

    /** What is asked of an object behind so many calls is not promised, and so not tested. */
    private static final int MOST_CALLS = 512;

    private final WeakScheme scheme;
    private int calls;
    private boolean isBeyond;

    Check(int cells) {
        scheme = new WeakScheme(cells);
    }

    static void due(String what, Object got, Object want) {
        checks++;
        if (!Objects.equals(got, want)) {
            wrong++;
            String shown = what.length() > 200 ? what.substring(0, 200) + " .." : what;
            String about = sentence == null ? "" : "\"" + sentence + "\": ";
            System.out.println(about + shown + " answered " + got + ", due is " + want);
        }
    }

    /** The checks from here on are about these words of the document; each sentence has one at least. */
    static void sentence(String words) {
        endSentence();
        sentence = words;
        sentences++;
        checksAhead = checks;
    }

    private static void endSentence() {
        if (sentence != null && checks == checksAhead) {
            wrong++;
            System.out.println("\"" + sentence + "\" has no check");
        }
    }

    static void end() {
        endSentence();
        String about = sentences == 0 ? "" : " of " + sentences + " sentences";
        System.out.println(checks + " checks" + about + ", " + wrong + " wrong");
        if (wrong != 0 || checks == 0) {
            System.exit(1);
        }
    }

    static byte[] bytes(String text) {
        return text.getBytes(StandardCharsets.ISO_8859_1);
    }

    /** Bytes at, at + 1, .. of a text as one int, the first one highest; 0 behind its end. */
    static int four(byte[] text, int at) {
        int result = 0;
        for (int i = at; i < at + 4; i++) {
            result = result << 8 | (i < text.length ? text[i] & 255 : 0);
        }
        return result;
    }

    static boolean feedTwenty(WeakScheme scheme, byte[] text, int at) {
        return scheme.feed(four(text, at), four(text, at + 4), four(text, at + 8), four(text, at + 12),
                four(text, at + 16));
    }

    boolean feed(String text) {
        byte[] bytes = bytes(text);
        boolean all = true;
        for (int at = 0; at < bytes.length; at += 20) {
            all &= feedTwenty(scheme(), bytes, at);
        }
        return all;
    }

    int run(String text, int fuel) {
        feed(text);
        return scheme().run(text.length(), fuel);
    }

    int run(String text) {
        return run(text, 20000);
    }

    String output() {
        StringBuilder all = new StringBuilder();
        for (long next = scheme().fetch(); next != 0; next = scheme().fetch()) {
            int many = (int) (next >>> 56);
            for (int i = 0; i < many; i++) {
                all.append((char) (next >>> 48 - 8 * i & 255));
            }
        }
        return all.toString();
    }

    /** The object, for one call of it. */
    WeakScheme scheme() {
        calls++;
        if (calls == MOST_CALLS + 1 && !isBeyond) {
            due("calls of one object", calls, MOST_CALLS);
        }
        return scheme;
    }

    /** No more than this program's own: there is a bound of the document that so few calls do not reach. */
    Check beyondThePromise() {
        isBeyond = true;
        return this;
    }

    int count(int what) {
        return scheme().count(what);
    }

    /** A program that ends without a fault and has written this. */
    Check writes(String text, String want) {
        due(text, run(text) + " " + output(), "0 " + want);
        return this;
    }

    /** A program that ends with this fault, 4 or more, or 0. */
    Check ends(String text, int want) {
        due(text, run(text) + " at " + scheme().place(), want + " at -1");
        return this;
    }

    /** A program that is refused as a text, with a fault 1, 2 or 3 at a place. */
    Check fails(String text, int want, int place) {
        due(text, run(text) + " at " + scheme().place(), want + " at " + place);
        return this;
    }

    /** A program that is refused where it has its @, which is left out. */
    Check failsAt(int want, String marked) {
        return fails(marked.replace("@", ""), want, marked.indexOf('@'));
    }

    /** Some of a text of which the rest is not for the program. */
    Check cut(String text, int n, int want, int place) {
        feed(text);
        due(n + " bytes of " + text, scheme().run(n, 20000) + " at " + scheme().place(), want + " at " + place);
        return this;
    }

    /** A program that is right as a text: without fuel it ends with its first evaluation. */
    Check isRight(String text) {
        due(text, run(text, 0) + " at " + scheme().place(), "4 at -1");
        return this;
    }

    /** A program that ends with this fault, or 0, and leaves so much of its fuel. */
    Check takes(String text, int fuel, int want, int left) {
        due(text + " with " + fuel, run(text, fuel) + " leaves " + count(7), want + " leaves " + left);
        return this;
    }

    Check counts(int what, int want) {
        due("count(" + what + ")", scheme().count(what), want);
        return this;
    }
}
