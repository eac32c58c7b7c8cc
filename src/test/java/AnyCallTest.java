import java.util.Random;

/** Any call with any numbers in any state: none throws, and those that only tell change nothing. */
public final class AnyCallTest {
    private static final int[] NUMBERS = {0, 1, 2, 3, 4, 5, 7, 8, 9, 15, 16, 50, 60, 79, 80, 199, 200, 1799, 1800,
        20000, 20001, -1, -2, Integer.MAX_VALUE, Integer.MIN_VALUE};
    private static final String[] TOKENS = {"fn ", "let ", "if ", "else", "while ", "print ", "return ", "del ",
        "new", "row", "size", "none", "(", ")", "{", "}", "[", "]", ";", ",", ".", "=", "==", "<", "+", "-", "*",
        " a", " b", " f", "1", "50", "536870911", "999999999", "abcdefghi", "?"};

    public static void main(String[] args) {
        for (int seed = 0; seed < 400; seed++) calls(new Random(seed));
        Check.end();
    }

    private static void calls(Random random) {
        ShapeEngine x = new ShapeEngine();
        for (int call = 0; call < 512; call++) {
            switch (random.nextInt(12)) {
                case 0: x.feed(any(random), random.nextLong()); break;
                case 1: Check.feed(x, Check.bytes(soup(random))); break;
                case 2: Check.feed(x, Check.bytes(new Author(random).write())); break;
                case 3: x.read(); break;
                case 4: x.run(any(random)); break;
                default: tells(x, random); break;
            }
        }
    }

    private static int any(Random random) {
        return random.nextInt(4) == 0 ? random.nextInt() : NUMBERS[random.nextInt(NUMBERS.length)];
    }

    private static String soup(Random random) {
        StringBuilder out = new StringBuilder();
        int tokens = 1 + random.nextInt(30);
        for (int t = 0; t < tokens; t++) out.append(TOKENS[random.nextInt(TOKENS.length)]);
        return out.toString();
    }

    private static void tells(ShapeEngine x, Random random) {
        int a = any(random);
        int b = any(random);
        int c = any(random);
        long first = all(x, a, b, c);
        Check.due("telling twice " + a + " " + b + " " + c, all(x, a, b, c), first);
    }

    private static long all(ShapeEngine x, int a, int b, int c) {
        long sum = x.fault(a);
        sum = sum * 31 + x.told(a);
        sum = sum * 31 + x.paper(a, b);
        sum = sum * 31 + x.printed(a);
        sum = sum * 31 + x.object(a, b);
        sum = sum * 31 + x.member(a, b, c);
        sum = sum * 31 + x.worth(a, b);
        sum = sum * 31 + x.letter(a, b, c);
        sum = sum * 31 + x.row(a, b);
        sum = sum * 31 + x.item(a, b);
        sum = sum * 31 + x.shape(a, b);
        sum = sum * 31 + x.site(a, b);
        sum = sum * 31 + x.fn(a, b);
        return sum * 31 + x.count(a);
    }
}
