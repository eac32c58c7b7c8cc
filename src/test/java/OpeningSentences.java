import java.util.Random;

/** The document's first section: what it is. */
final class OpeningSentences {
    private static final int NONE = ShapeEngine.NONE;

    private OpeningSentences() {
    }

    @Sentence(promise = {3, 5}, says = "A shape engine: a small language of free objects that grow members as they go is read and run;")
    static void objectsThatGrowMembersAreReadAndRun() {
        ShapeEngine x = new ShapeEngine();
        Check.due("read", Check.read(x, "let a=new();a.x=1;a.y=a.x+1;print size(a);a.z=a;print size(a.z);"), 6);
        Check.due("nothing is there ahead of a run", x.told(4), 0);
        Check.due("run", x.run(99), 0);
        Check.each("it grew", x::printed, 2, 3);
        Check.due("members", x.object(0, 2), 3);
    }

    @Sentence(promise = {9, 15}, says = "objects that grew alike share hidden shapes,")
    static void alikeObjectsShareAShape() {
        ShapeEngine x = Check.ran("fn p(a,b){let o=new();o.x=a;o.y=b;return o;}let a=p(1,none);let b=p(a,3);let c=new();c.y=1;c.x=2;");
        Check.due("grown alike", x.object(0, 0), x.object(1, 0));
        Check.due("grown in another order", x.object(2, 0) == x.object(0, 0) ? 1 : 0, 0);
        Check.due("shapes of all three", x.told(5), 5);
    }

    @Sentence(promise = 16, says = "sites learn what comes by them,")
    static void sitesLearn() {
        ShapeEngine x = Check.ran("fn f(o){return o.x+1;}let a=new();a.x=1;f(a);f(a);");
        Check.each("the read", w -> x.site(0, w), 0, 16, 2, 1, 1, 0, 0, 0, 1, NONE);
        Check.each("the sum", w -> x.site(1, w), 3, 18, 2, 0, 1, 0, 0, 0, NONE);
    }

    @Sentence(promise = 17, says = "functions that are called often are made for what was seen and left when it is not,")
    static void functionsAreMadeAndLeft() {
        String text = "fn f(o){return o.x;}let a=new();a.x=1;let b=new();b.y=1;";
        ShapeEngine x = Check.ran(text + "f(a);".repeat(4));
        Check.each("made for what was seen", w -> x.fn(0, w), 1, 4, 4, 1, 1, 0, 0, NONE);
        ShapeEngine y = Check.ran(text + "f(a);".repeat(4) + "f(b);");
        Check.each("left when it is not", w -> y.fn(0, w), 1, 5, 0, 0, 1, 1, 0, 0);
    }

    /** Each object is a dictionary as soon as it is made, so that no read keeps anything of it. */
    private static String withDictionaries(String text) {
        String plain = text.replace("new()", "new(none)").replace("new(", "mk(");
        return "fn mk(p){let o=new(p);o.t=1;del o.t;return o;}" + plain;
    }

    private static String withMakers(String text) {
        return "fn mk(p){let o=new(p);return o;}" + text.replace("new()", "new(none)").replace("new(", "mk(");
    }

    private static void showTheSame(String of, ShapeEngine one, ShapeEngine other) {
        for (int w : new int[] {0, 3, 4, 6, 7, 14, 15}) Check.due("told " + w + of, one.told(w), other.told(w));
        for (int i = 0; i < Math.min(200, other.told(7)); i++) {
            Check.due("sort " + i + of, one.paper(i, 0), other.paper(i, 0));
            Check.due("number " + i + of, one.paper(i, 1), other.paper(i, 1));
            Check.due("printed " + i + of, one.printed(i), other.printed(i));
        }
        for (int o = 0; o < other.told(4); o++) {
            Check.due("parent of " + o + of, one.object(o, 1), other.object(o, 1));
            Check.due("members of " + o + of, one.object(o, 2), other.object(o, 2));
            for (int i = 0; i < other.object(o, 2); i++) {
                Check.due("name " + i + " of " + o + of, one.letter(o, i, 0), other.letter(o, i, 0));
                Check.due("sort " + i + " of " + o + of, one.member(o, i, 0), other.member(o, i, 0));
                Check.due("number " + i + " of " + o + of, one.member(o, i, 1), other.member(o, i, 1));
                Check.due("worth " + i + " of " + o + of, one.worth(o, i), other.worth(o, i));
            }
        }
    }

    @Sentence(promise = {7, 8, 10, 11}, says = "and nothing of that ever shows in what a program does.")
    static void nothingOfThatShows() {
        String text = "fn f(o){return o.x+1;}let a=new();a.x=1;let b=new(a);let c=new(b);let i=0;"
            + "while i<9{print f(a);print f(b);print f(c);if i==4{b.x=536870911*2+1;}if i==6{del b.x;}a.x=a.x+i;i=i+1;}";
        ShapeEngine shaped = Check.ran(withMakers(text));
        ShapeEngine plain = Check.ran(withDictionaries(text));
        showTheSame(" of " + text, shaped, plain);
        Check.due("f was made", shaped.fn(1, 4) > 0 ? 1 : 0, 1);
        Check.due("and left", shaped.fn(1, 5) > 0 ? 1 : 0, 1);
        Check.due("entries were broken", shaped.told(11) > 0 ? 1 : 0, 1);
        Check.due("there were hits", shaped.told(9) > 0 ? 1 : 0, 1);
        Check.due("nothing is kept of dictionaries", plain.told(9) + plain.told(11), 0);
    }

    @Sentence(promise = {7, 8, 10, 11}, says = "and nothing of that ever shows in what a program does.")
    static void nothingOfThatShowsInRandomTexts() {
        int compared = 0;
        for (int seed = 1; seed <= 300; seed++) {
            String text = new Author(new Random(seed)).write();
            ShapeEngine shaped = new ShapeEngine();
            ShapeEngine plain = new ShapeEngine();
            // The longer text may have too many bytes or sites, and takes more steps.
            if (withDictionaries(text).length() > 1500) continue;
            if (Check.read(shaped, withMakers(text)) < 0 || Check.read(plain, withDictionaries(text)) < 0) continue;
            if (shaped.run(20000) == 2 || plain.run(20000) == 2) continue;
            compared++;
            showTheSame(" (seed " + seed + ": " + text + ")", shaped, plain);
        }
        Check.due("texts that were compared: " + compared, compared > 100 ? 1 : 0, 1);
    }

    @Sentence(promise = 1, says = {"An object is used for at most 512 calls after it has been made;",
        "what later calls answer is free."})
    static void laterCallsEndToo() {
        ShapeEngine x = Check.ran("fn f(o){o.x=1;return o.x;}let i=0;while i<99{i=i+f(new());print i;}");
        int before = x.told(3);
        for (int call = 0; call < 3000; call++) {
            x.feed(1 + call % 8, 0x20202020202020L * call);
            if (call % 500 == 499) x.read();
            x.run(1 + call % 20000);
            for (int w = -1; w < 17; w++) x.told(w);
        }
        Check.due("calls of the program ahead of that", before, 99);
    }
}
