import java.nio.charset.StandardCharsets;
import java.util.Objects;

/** What the tests of the project share: an object to talk to in texts, and counting what was wrong. */
final class Check {
    private static int checks;
    private static int wrong;

    private final WeakScheme scheme;

    Check(int cells) {
        scheme = new WeakScheme(cells);
    }

    static void due(String what, Object got, Object want) {
        checks++;
        if (!Objects.equals(got, want)) {
            wrong++;
            String shown = what.length() > 200 ? what.substring(0, 200) + " .." : what;
            System.out.println(shown + " answered " + got + ", due is " + want);
        }
    }

    static void end() {
        System.out.println(checks + " checks, " + wrong + " wrong");
        if (wrong != 0 || checks == 0) {
            System.exit(1);
        }
    }

    static byte[] bytes(String text) {
        return text.getBytes(StandardCharsets.ISO_8859_1);
    }

    /** Bytes at, at + 1, .. of a text as one int, the first one highest; 0 behind its end. */
    static int four(byte[] text, int at) {
        int result = 0;
        for (int i = at; i < at + 4; i++) {
            result = result << 8 | (i < text.length ? text[i] & 255 : 0);
        }
        return result;
    }

    static boolean feedTwenty(WeakScheme scheme, byte[] text, int at) {
        return scheme.feed(four(text, at), four(text, at + 4), four(text, at + 8), four(text, at + 12),
                four(text, at + 16));
    }

    boolean feed(String text) {
        byte[] bytes = bytes(text);
        boolean all = true;
        for (int at = 0; at < bytes.length; at += 20) {
            all &= feedTwenty(scheme, bytes, at);
        }
        return all;
    }

    int run(String text, int fuel) {
        feed(text);
        return scheme.run(text.length(), fuel);
    }

    int run(String text) {
        return run(text, 20000);
    }

    String output() {
        StringBuilder all = new StringBuilder();
        for (long next = scheme.fetch(); next != 0; next = scheme.fetch()) {
            int many = (int) (next >>> 56);
            for (int i = 0; i < many; i++) {
                all.append((char) (next >>> 48 - 8 * i & 255));
            }
        }
        return all.toString();
    }

    WeakScheme scheme() {
        return scheme;
    }

    int count(int what) {
        return scheme.count(what);
    }

    /** A program that ends without a fault and has written this. */
    Check writes(String text, String want) {
        due(text, run(text) + " " + output(), "0 " + want);
        return this;
    }

    /** A program that ends with this fault, 4 or more, or 0. */
    Check ends(String text, int want) {
        due(text, run(text) + " at " + scheme.place(), want + " at -1");
        return this;
    }

    /** A program that is refused as a text, with a fault 1, 2 or 3 at a place. */
    Check fails(String text, int want, int place) {
        due(text, run(text) + " at " + scheme.place(), want + " at " + place);
        return this;
    }

    Check counts(int what, int want) {
        due("count(" + what + ")", scheme.count(what), want);
        return this;
    }
}
