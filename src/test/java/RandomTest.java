import java.util.Random;

/** Random texts, whole and harmed, run by the class and by the model: all that they tell has to agree. */
public final class RandomTest {
    private static final String HARM = "(){}[];,.=<+-* \naxf109kn@A";

    public static void main(String[] args) {
        int texts = args.length > 0 ? Integer.parseInt(args[0]) : 6000;
        int first = args.length > 1 ? Integer.parseInt(args[1]) : 1;
        int[] endings = new int[3];
        int[] faults = new int[4];
        long[] sums = new long[16];
        for (int seed = first; seed < first + texts && Check.allRight(); seed++) {
            Random random = new Random(seed);
            ShapeEngine engine = new ShapeEngine();
            Model model = new Model();
            for (int round = 0; round < 4; round++) {
                String text = round == 2 ? new Grammarian(random).write() : new Author(random).write();
                if (round == 1 && !text.isEmpty()) text = harmed(text, random);
                String of = "(seed " + seed + ", round " + round + ": " + text + ")";
                Check.feed(engine, Check.bytes(text));
                model.feed(Check.bytes(text));
                int sites = model.read();
                Check.due("read " + of, engine.read(), sites);
                if (sites < 0) faults[-10 - sites]++;
                model.compare(engine, of);
                int limit = random.nextInt(6) == 0 ? 1 + random.nextInt(100) : 20000;
                int ending = model.run(limit);
                Check.due("run " + of, engine.run(limit), ending);
                if (ending >= 0) endings[ending]++;
                model.compare(engine, of);
                for (int w = 0; w < 16; w++) sums[w] += engine.told(w);
            }
        }
        System.out.println("ended " + endings[0] + ", failed " + endings[1] + ", spent " + endings[2]
            + ", faults 1: " + faults[1] + ", 2: " + faults[2] + ", 3: " + faults[3]);
        StringBuilder told = new StringBuilder("told in all:");
        for (long sum : sums) told.append(" ").append(sum);
        System.out.println(told);
        Check.end();
    }

    private static String harmed(String text, Random random) {
        StringBuilder out = new StringBuilder(text);
        int harms = 1 + random.nextInt(2);
        for (int i = 0; i < harms; i++) {
            int at = random.nextInt(out.length());
            char c = HARM.charAt(random.nextInt(HARM.length()));
            switch (random.nextInt(3)) {
                case 0: out.deleteCharAt(at); break;
                case 1: out.setCharAt(at, c); break;
                default: out.insert(at, c); break;
            }
        }
        return out.length() > 1500 ? out.substring(0, 1500) : out.toString();
    }
}
