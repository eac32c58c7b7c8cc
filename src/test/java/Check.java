import java.nio.charset.StandardCharsets;

/** What the tests share: feeding texts, and comparing answers with those that are due. */
final class Check {
    private static int wrong = 0;
    private static int asked = 0;

    private Check() {
    }

    static void due(String what, long got, long want) {
        asked++;
        if (got == want) return;
        wrong++;
        if (wrong <= 40) System.out.println(what + " answered " + got + ", due is " + want);
    }

    /** Prints the sum of a test and ends it, with exit code 1 if an answer was wrong. */
    static void end() {
        System.out.println(asked + " answers, " + wrong + " of them wrong");
        if (wrong != 0 || asked == 0) System.exit(1);
    }

    static boolean allRight() {
        return wrong == 0;
    }

    static byte[] bytes(String text) {
        return text.getBytes(StandardCharsets.ISO_8859_1);
    }

    static void feed(ShapeEngine engine, byte[] bytes) {
        for (int i = 0; i < bytes.length; i += 8) {
            int n = Math.min(8, bytes.length - i);
            long packed = 0;
            for (int k = 0; k < n; k++) packed |= (bytes[i + k] & 255L) << (8 * k);
            engine.feed(n, packed);
        }
    }

    static int read(ShapeEngine engine, String text) {
        feed(engine, bytes(text));
        return engine.read();
    }

    /** An engine with a text that must have no fault. */
    static ShapeEngine with(String text) {
        ShapeEngine engine = new ShapeEngine();
        int answer = read(engine, text);
        if (answer < 0) due("read of " + text + " (fault at " + engine.fault(1) + ")", answer, 0);
        return engine;
    }

    /** An engine that ran a text, which must come to its end. */
    static ShapeEngine ran(String text) {
        ShapeEngine engine = with(text);
        due("run of " + text, engine.run(20000), 0);
        return engine;
    }

    /** The place of a mark in a text. */
    static int at(String text, String mark) {
        return text.indexOf(mark);
    }
}
