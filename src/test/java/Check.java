import java.nio.charset.StandardCharsets;
import java.util.function.IntToLongFunction;

/** What the tests share: feeding texts, and comparing answers with those that are due. */
final class Check {
    /** Numbers that are none such for every call that asks for one from 0 on. */
    static final int[] NEVER = {-1, -2, Integer.MIN_VALUE, Integer.MAX_VALUE};

    private static int wrong = 0;
    private static int asked = 0;
    private static String subject = "";

    private Check() {
    }

    static void due(String what, long got, long want) {
        asked++;
        if (got == want) return;
        wrong++;
        if (wrong <= 40) System.out.println(subject + what + " answered " + got + ", due is " + want);
    }

    /** What the answers that follow are about: it is told ahead of each wrong one. */
    static void about(String words) {
        subject = words;
    }

    static int asked() {
        return asked;
    }

    /** The answers of a call for 0, 1, 2 and so on. */
    static void each(String call, IntToLongFunction tell, long... want) {
        for (int i = 0; i < want.length; i++) due(call + " for " + i, tell.applyAsLong(i), want[i]);
    }

    /** One answer of a call for each of some numbers. */
    static void same(String call, IntToLongFunction tell, long want, int... numbers) {
        for (int n : numbers) due(call + " for " + n, tell.applyAsLong(n), want);
    }

    /** Prints the sum of a test and ends it, with exit code 1 if an answer was wrong. */
    static void end() {
        System.out.println(asked + " answers, " + wrong + " of them wrong");
        if (wrong != 0 || asked == 0) System.exit(1);
    }

    static boolean allRight() {
        return wrong == 0;
    }

    static byte[] bytes(String text) {
        return text.getBytes(StandardCharsets.ISO_8859_1);
    }

    /** Up to 8 characters as feed() takes them, the first one lowest. */
    static long packed(String text) {
        long all = 0;
        for (int k = 0; k < text.length(); k++) all |= (text.charAt(k) & 255L) << (8 * k);
        return all;
    }

    static void feed(ShapeEngine engine, byte[] bytes) {
        for (int i = 0; i < bytes.length; i += 8) {
            int n = Math.min(8, bytes.length - i);
            long packed = 0;
            for (int k = 0; k < n; k++) packed |= (bytes[i + k] & 255L) << (8 * k);
            engine.feed(n, packed);
        }
    }

    static int read(ShapeEngine engine, String text) {
        feed(engine, bytes(text));
        return engine.read();
    }

    /** An engine with a text that must have no fault. */
    static ShapeEngine with(String text) {
        ShapeEngine engine = new ShapeEngine();
        int answer = read(engine, text);
        if (answer < 0) due("read of " + text + " (fault at " + engine.fault(1) + ")", answer, 0);
        return engine;
    }

    /** An engine that ran a text, which must come to its end. */
    static ShapeEngine ran(String text) {
        ShapeEngine engine = with(text);
        due("run of " + text, engine.run(20000), 0);
        return engine;
    }

    /** A text that has a fault; a # marks the place. */
    static void fault(int kind, String marked) {
        int place = marked.indexOf('#');
        String text = marked.replace("#", "");
        ShapeEngine x = new ShapeEngine();
        due("read of " + text, read(x, text), -10 - kind);
        due("kind in " + text, x.fault(0), kind);
        due("place in " + text, x.fault(1), place);
    }

    /** A text that has so many sites and no fault. */
    static void fine(String text, int sites) {
        ShapeEngine x = new ShapeEngine();
        due("read of " + text, read(x, text), sites);
        due("kind in " + text, x.fault(0), 0);
        due("place in " + text, x.fault(1), -1);
    }

    /** An engine that ran a text, which must fail; a # marks the place. */
    static ShapeEngine fails(int kind, String marked) {
        int place = marked.indexOf('#');
        String text = marked.replace("#", "");
        ShapeEngine x = with(text);
        due("run of " + text, x.run(20000), 1);
        due("failure of " + text, x.told(0), kind);
        due("place of " + text, x.told(1), place);
        return x;
    }

    /** An E that has this number as its value, a whole or a wide as the number asks for. */
    static void prints(String e, long want) {
        ShapeEngine x = ran("print " + e + ";");
        due("printed " + e, x.printed(0), want);
        boolean whole = want >= -1073741824L && want <= 1073741823L;
        due("sort of " + e, x.paper(0, 0), whole ? 1 : 2);
        due("number of " + e, x.paper(0, 1), 0);
    }

    /** A text, run to its end, whose paper has just these numbers. */
    static ShapeEngine papers(String text, long... want) {
        ShapeEngine x = ran(text);
        due("what the paper got of " + text, x.told(7), want.length);
        each("printed of " + text, x::printed, want);
        return x;
    }
}
