/** Section 4 of the terms: functions that are made and left; and promise 17. */
final class MakingSentences {
    private static final int NONE = ShapeEngine.NONE, BAD = ShapeEngine.BAD;
    private static final String READ = "fn f(o){return o.x;}let a=new();a.x=1;let b=new();b.y=1;let c=new();c.z=1;"
        + "let d=new();d.a=1;let e=new();e.b=1;";
    private static final String SUM = "fn f(n){return n+0;}let w=536870911*4;";
    /** Each of three sums can leave f once, for none that gave a wide is guessed again. */
    private static final String THREE = "fn f(a,b,c){a+0;b+0;c+0;}let w=536870911*4;";
    private static final String FOUR = "f(1,1,1);".repeat(4);

    private MakingSentences() {
    }

    /** CALLS, count, MADE, how often MADE, LEFT, COLD and the SITE at which it was LEFT last. */
    private static ShapeEngine fn(String text, int... want) {
        ShapeEngine x = Check.ran(text);
        facts(x, 0, want);
        return x;
    }

    private static void facts(ShapeEngine x, int f, int... want) {
        for (int w = 0; w < want.length; w++) Check.due("fn(" + f + ", " + (w + 1) + ")", x.fn(f, w + 1), want[w]);
    }

    private static String times(int n, String call) {
        return call.repeat(n);
    }

    // ---- counting and making

    @Sentence(promise = 17, says = "Each CALL of a FN counts for it.")
    static void callsCount() {
        fn("fn f(){}", 0, 0);
        fn("fn f(){}f();", 1, 1);
        fn("fn f(){}fn g(){}g();f();g();f();", 2, 2);
        fn("fn f(n){if n{f(n-1);}}f(2);", 3, 3);
        fn("fn f(a){return a;}f(f(1));", 2, 2);
        ShapeEngine x = Check.with("fn f(){1;}f();f();");
        Check.due("spent at the second call", x.run(4), 2);
        facts(x, 0, 1, 1);
        Check.due("spent in the second call", x.run(5), 2);
        facts(x, 0, 2, 2);
    }

    @Sentence(promise = {6, 17}, says = "When its count comes to 4 and it is not MADE, nor COLD, it is MADE:")
    static void madeAtFour() {
        fn("fn f(){}" + times(3, "f();"), 3, 3, 0, 0, 0, 0, NONE);
        ShapeEngine x = fn("fn f(){}" + times(4, "f();"), 4, 4, 1, 1, 0, 0, NONE);
        Check.due("told", x.told(12), 1);
        x = fn("fn f(){}" + times(5, "f();"), 5, 5, 1, 1, 0, 0, NONE);
        Check.due("told", x.told(12), 1);
        x = fn("fn f(){}let i=0;while i<99{f();i=i+1;}", 99, 99, 1, 1, 0, 0, NONE);
        Check.due("once while it is made", x.told(12), 1);
        // The fourth in one another: made within the others.
        fn("fn f(n){if n{f(n-1);}}f(3);", 4, 4, 1, 1, 0, 0, NONE);
        x = Check.ran("fn f(){}fn g(){}" + times(3, "f();g();") + "f();");
        facts(x, 1, 3, 3, 0, 0, 0, 0, NONE);
    }

    @Sentence(promise = {6, 17}, says = "When its count comes to 4 and it is not MADE, nor COLD, it is MADE:")
    static void madeAheadOfWhatTheFourthCallDoes() {
        fn(READ + times(3, "f(a);") + "f(b);", 4, 0, 0, 1, 1, 0, 0);
        fn(SUM + times(3, "f(1);") + "f(w);", 4, 0, 0, 1, 1, 0, 0);
        ShapeEngine x = Check.with("fn f(){1;}" + times(4, "f();"));
        Check.due("spent at the first step of the fourth call", x.run(11), 2);
        facts(x, 0, 4, 4, 1, 1);
        Check.due("spent at the fourth call", x.run(10), 2);
        facts(x, 0, 3, 3, 0, 0);
    }

    @Sentence(promise = 17, says = "nor COLD,")
    static void neverMadeWhenCold() {
        String cold = THREE + FOUR + "f(w,1,1);" + FOUR + "f(1,w,1);" + FOUR + "f(1,1,w);";
        fn(cold + times(3, "f(1,1,1);"), 18, 3, 0, 3, 3, 1, 2);
        fn(cold + FOUR, 19, 4, 0, 3, 3, 1, 2);
        ShapeEngine x = fn(cold + FOUR + FOUR, 23, 8, 0, 3, 3, 1, 2);
        Check.due("made in all", x.told(12), 3);
        Check.each("no guesses", s -> x.site(s, 7), 0, 0, 0);
    }

    // ---- guesses

    @Sentence(promise = 16, says = "of all READ and SUM SITES in its text GUESSES are taken:")
    static void guessesInItsText() {
        String text = "fn f(o){o.x;o.y=1;del o.z;o.x*1+1-1;}fn g(o){o.x;1+1;}let a=new();a.y=1;a.x=1;a.x;1+1;g(a);";
        ShapeEngine x = Check.ran(text + times(4, "f(a);"));
        // f: read, put, strike, read, *, +, -; g: read, +; the main: put, put, read, +.
        Check.each("guess", s -> x.site(s, 7), 1, 0, 0, 1, 1, 1, 1, 0, 0, 0, 0, 0, 0);
        ShapeEngine y = Check.ran(text + times(3, "f(a);"));
        Check.each("not made", s -> y.site(s, 7), 0, 0, 0, 0, 0, 0, 0);
    }

    @Sentence(promise = {16, 17}, says = "of a READ one that is not MANY and has ENTRIES: their SHAPES;")
    static void guessesOfReads() {
        // f reads two objects by one site.
        String two = "fn f(o,p){let i=0;while i<2{o.x;o=p;i=i+1;}}let a=new();a.a=1;let b=new();b.b=1;let c=new();c.c=1;"
            + "let d=new();d.d=1;let e=new();e.e=1;";
        String call = "f(a,b);f(c,d);f(a,b);f(a,b);";
        ShapeEngine x = fn(two + call + "f(c,d);f(b,a);", 6, 6, 1, 1, 0, 0, NONE);
        Check.due("four entries: a guess", x.site(0, 7), 1);
        fn(two + call + "f(a,e);", 5, 0, 0, 1, 1, 0, 0);
        x = fn(two + "f(a,b);f(c,d);f(e,e);f(a,b);f(c,d);", 5, 5, 1, 1, 0, 0, NONE);
        Check.due("many: no guess", x.site(0, 7), 0);
        x = fn(two + "f(a,a);f(a,a);f(a,a);f(a,a);", 4, 4, 1, 1, 0, 0, NONE);
        Check.due("one entry: a guess", x.site(0, 7), 1);
        x = fn("fn f(o,n){if n{o.x;}}let a=new();" + times(4, "f(a,0);") + "f(a,1);", 5, 5, 1, 1, 0, 0, NONE);
        Check.due("no entries: no guess", x.site(0, 7), 0);
        x = fn(READ + "del a.x;" + times(5, "f(a);") + "f(b);", 6, 6, 1, 1, 0, 0, NONE);
        Check.due("dictionaries alone: no guess", x.site(0, 7), 0);
    }

    @Sentence(promise = {16, 17}, says = "of a READ one that is not MANY and has ENTRIES: their SHAPES;")
    static void guessesAreTheShapesOfThen() {
        // Broken ahead of the making: no guess. Broken behind it: the guess stays.
        String way = "fn f(o){return o.x;}let a=new();a.x=1;let b=new(a);";
        ShapeEngine x = fn(way + times(3, "f(b);") + "a.x=2;f(b);f(a);", 5, 5, 1, 1, 0, 0, NONE);
        Check.due("no guess", x.site(0, 7), 0);
        x = fn(way + times(4, "f(b);") + "a.x=2;f(b);", 5, 5, 1, 1, 0, 0, NONE);
        Check.due("a guess still", x.site(0, 7), 1);
        x = fn(way + times(4, "f(b);") + "a.x=2;", 4, 4, 1, 1, 0, 0, NONE);
        Check.due("a guess without entries", x.site(0, 7), 1);
        Check.due("no entries", x.site(0, 4), 0);
        // What comes to the entries behind the making is none of the guess: it leaves it.
        fn(READ + times(4, "f(a);") + "f(b);" + times(4, "f(a);") + "f(b);", 10, 5, 1, 2, 1, 0, 0);
    }

    @Sentence(promise = {16, 17}, says = "of all READ and SUM SITES in its text GUESSES are taken:")
    static void guessesOfTheMostSites() {
        String reads = "fn f(o,p){" + "o.x;".repeat(79) + "p.x;}let a=new();let b=new(a);let c=new(b);let d=new(c);";
        String four = "f(a,a);f(a,b);f(a,c);f(a,a);";
        fn(reads + four + "f(a,b);f(a,c);", 6, 6, 1, 1, 0, 0, NONE);
        ShapeEngine x = fn(reads + four + "f(a,d);", 5, 0, 0, 1, 1, 0, 79);
        Check.due("sites", x.count(2), 80);
        fn(reads + four + "f(b,a);", 5, 0, 0, 1, 1, 0, 0);
        // Four entries at the last site of all.
        String last = "fn f(o,p){if 0{" + "o.x;".repeat(78) + "}let i=0;while i<2{i=i+1;o.x;o=p;}}let a=new();let b=new(a);"
            + "let c=new(b);let d=new(c);let e=new(d);f(a,b);f(c,d);f(a,a);f(a,a);";
        x = fn(last + "f(b,c);f(d,a);", 6, 6, 1, 1, 0, 0, NONE);
        Check.due("entries", x.site(79, 4), 4);
        fn(last + "f(d,e);", 5, 0, 0, 1, 1, 0, 79);
    }

    @Sentence(promise = {16, 17}, says = "of a SUM that gave WHOLES alone: that.")
    static void guessesOfSums() {
        ShapeEngine x = fn(SUM + times(4, "f(1);"), 4, 4, 1, 1, 0, 0, NONE);
        Check.due("wholes", x.site(0, 7), 1);
        x = fn(SUM + times(5, "f(w);") + "f(1);f(w);", 7, 7, 1, 1, 0, 0, NONE);
        Check.due("wides", x.site(0, 7), 0);
        x = fn(SUM + "f(w);" + times(3, "f(1);") + "f(w);", 5, 5, 1, 1, 0, 0, NONE);
        Check.due("both", x.site(0, 7), 0);
        x = fn("fn f(n){if n{return n+0;}}let w=536870911*4;" + times(4, "f(0);") + "f(w);", 5, 5, 1, 1, 0, 0, NONE);
        Check.due("nothing", x.site(0, 7), 0);
    }

    // ---- leaving

    @Sentence(promise = {6, 17}, says = "it is LEFT: when a READ SITE with a GUESS runs on an OBJECT whose SHAPE is none of it "
        + "(a DICTIONARY, too),")
    static void leftByARead() {
        ShapeEngine x = fn(READ + times(4, "f(a);") + "f(b);", 5, 0, 0, 1, 1, 0, 0);
        Check.due("told", x.told(13), 1);
        fn(READ + times(4, "f(a);") + "f(new());", 5, 0, 0, 1, 1, 0, 0);
        fn(READ + times(4, "f(a);") + "a.y=1;f(a);", 5, 0, 0, 1, 1, 0, 0);
        x = fn(READ + times(4, "f(a);") + "del c.z;f(c);", 5, 0, 0, 1, 1, 0, 0);
        Check.due("a dictionary comes to no entries", x.site(0, 4), 1);
        fn(READ + times(4, "f(a);") + "a.y=1;del a.y;print f(a);", 5, 0, 0, 1, 1, 0, 0);
        fn(READ + times(4, "f(a);") + "let g=new();g.x=7;f(g);", 5, 5, 1, 1, 0, 0, NONE);
        // Each of the guess's shapes is one of it.
        fn(READ + "f(a);f(b);f(c);f(a);f(b);f(c);f(a);", 7, 7, 1, 1, 0, 0, NONE);
        fn(READ + "f(a);f(b);f(c);f(a);f(d);", 5, 0, 0, 1, 1, 0, 0);
        // One that runs on no object fails, and is not left.
        x = Check.fails(2, "fn f(o){return o#.x;}let a=new();" + times(4, "f(a);") + "f(none);");
        facts(x, 0, 5, 5, 1, 1, 0, 0, NONE);
    }

    @Sentence(promise = {6, 17}, says = "a SUM with a GUESS gives a WIDE:")
    static void leftByAWide() {
        String sum = "fn f(n){return n*2;}";
        fn(sum + times(4, "f(1);") + "f(536870911);", 5, 5, 1, 1, 0, 0, NONE);
        fn(sum + times(4, "f(1);") + "f(536870911+1);", 5, 0, 0, 1, 1, 0, 0);
        fn(sum + times(4, "f(1);") + "f(-536870911-1);", 5, 5, 1, 1, 0, 0, NONE);
        ShapeEngine x = fn(sum + times(4, "f(1);") + "print f(-536870911-2);", 5, 0, 0, 1, 1, 0, 0);
        Check.due("its value all the same", x.printed(0), -1073741826L);
        Check.due("told", x.told(13), 1);
        fn("fn f(n){return n-1;}" + times(4, "f(1);") + "f(-536870911*2-2);", 5, 0, 0, 1, 1, 0, 0);
        fn("fn f(n){return n+1;}" + times(4, "f(1);") + "f(536870911*2+1);", 5, 0, 0, 1, 1, 0, 0);
        // - ahead of a ONE is no SUM; a SUM of wides may give a whole.
        fn("fn f(n){return -n;}" + times(4, "f(1);") + "f(-536870911*2-2);", 5, 5, 1, 1, 0, 0, NONE);
        fn("fn f(n){return n-n;}" + times(4, "f(1);") + "f(536870911*4);", 5, 5, 1, 1, 0, 0, NONE);
        x = Check.fails(1, "fn f(n){return n#*2;}" + times(4, "f(1);") + "f(none);");
        facts(x, 0, 5, 5, 1, 1, 0, 0, NONE);
    }

    @Sentence(promise = 17, says = "While it is MADE (in any CALL of it)")
    static void leftInAnyCallOfIt() {
        // The call that leaves it began ahead of the making: f(3) reads b behind the calls within it.
        String text = "fn f(n,o,p){if n{f(n-1,o,o);}return p.x;}let a=new();a.x=1;let b=new();";
        fn(text + "f(0,a,a);f(3,a,b);", 5, 0, 0, 1, 1, 0, 1);
        fn(text + "f(0,a,a);f(3,a,a);", 5, 5, 1, 1, 0, 0, NONE);
        // Once it is left nothing leaves it again till it is made again.
        fn(READ + times(4, "f(a);") + "f(b);f(c);f(d);", 7, 2, 0, 1, 1, 0, 0);
        fn("fn f(n,o){return n+0==o.x;}let w=536870911*4;let a=new();" + times(4, "f(1,a);") + "let b=new(a);f(w,b);",
            5, 0, 0, 1, 1, 0, 0);
        fn(READ + "f(a);f(b);f(c);", 3, 3, 0, 0, 0, 0, NONE);
    }

    @Sentence(promise = {16, 17}, says = "it is not MADE any more, its count is 0;")
    static void leftAndMadeAgain() {
        String left = READ + times(9, "f(a);") + "f(b);";
        ShapeEngine x = fn(left, 10, 0, 0, 1, 1, 0, 0);
        Check.due("no guess any more", x.site(0, 7), 0);
        fn(left + times(3, "f(a);"), 13, 3, 0, 1, 1, 0, 0);
        x = fn(left + times(4, "f(a);"), 14, 4, 1, 2, 1, 0, 0);
        Check.due("a guess again", x.site(0, 7), 1);
        fn(left + times(4, "f(a);") + "f(b);f(a);", 16, 6, 1, 2, 1, 0, 0);
        x = fn(left + times(4, "f(a);") + "f(c);", 15, 0, 0, 2, 2, 0, 0);
        Check.due("told", x.told(13), 2);
        // All guesses of the fn go, those of others stay.
        x = Check.ran("fn f(o){o.x;1+1;}fn g(o){o.x;1+1;}let a=new();" + times(4, "f(a);g(a);") + "let b=new(a);f(b);");
        ShapeEngine both = x;
        Check.each("guesses", s -> both.site(s, 7), 0, 0, 1, 1);
        facts(x, 1, 4, 4, 1, 1, 0, 0, NONE);
    }

    @Sentence(promise = 17, says = "behind the third time that it was LEFT it is COLD.")
    static void coldBehindTheThirdTime() {
        String once = THREE + FOUR + "f(w,1,1);";
        fn(once, 5, 0, 0, 1, 1, 0, 0);
        String twice = once + FOUR + "f(1,w,1);";
        fn(twice, 10, 0, 0, 2, 2, 0, 1);
        fn(twice + FOUR, 14, 4, 1, 3, 2, 0, 1);
        ShapeEngine x = fn(twice + FOUR + "f(1,1,w);", 15, 0, 0, 3, 3, 1, 2);
        Check.due("told", x.told(13), 3);
        x = Check.ran("fn g(){}" + twice + FOUR + "f(1,1,w);" + times(4, "g();"));
        facts(x, 0, 4, 4, 1, 1, 0, 0, NONE);
        facts(x, 1, 15, 0, 0, 3, 3, 1, 2);
        x.run(1);
        facts(x, 1, 0, 0, 0, 0, 0, 0, NONE);
    }

    // ---- promise 17

    @Sentence(promise = 17, says = "Of a FN: 0 how many NAMES, 1 CALLS in all, 2 its count now, 3 whether it is MADE, "
        + "4 how often it was MADE, 5 LEFT, 6 whether it is COLD, 7 the SITE at which it was LEFT last (NONE).")
    static void factsOfFns() {
        ShapeEngine x = Check.with("fn f(){}fn g(a){}fn h(a,b,c,d){}");
        Check.each("names", f -> x.fn(f, 0), 0, 1, 4);
        for (int f = 0; f < 3; f++) facts(x, f, 0, 0, 0, 0, 0, 0, NONE);
        ShapeEngine y = Check.ran("fn g(){1+1;}fn f(o){o.x;o.y;}let a=new();"
            + times(4, "f(a);") + "let b=new(a);f(b);f(b);");
        Check.each("f", w -> y.fn(1, w), 1, 6, 1, 0, 1, 1, 0, 1);
        Check.each("g", w -> y.fn(0, w), 0, 0, 0, 0, 0, 0, 0, NONE);
    }

    @Sentence(promise = 17, says = "7 the SITE at which it was LEFT last (NONE).")
    static void theSiteAtWhichItWasLeftLast() {
        fn(THREE + FOUR + "f(1,1,w);" + FOUR + "f(w,1,1);", 10, 0, 0, 2, 2, 0, 0);
        fn(THREE + FOUR + "f(1,w,w);", 5, 0, 0, 1, 1, 0, 1);
        fn(THREE + FOUR, 4, 4, 1, 1, 0, 0, NONE);
        // The last of the most sites.
        fn("fn f(n){return 0" + "+0".repeat(78) + "+n;}let w=536870911*4;" + times(4, "f(1);") + "f(w);",
            5, 0, 0, 1, 1, 0, 78);
    }

    @Sentence(promise = 17, says = "BAD.")
    static void noSuchFn() {
        ShapeEngine x = Check.ran("fn f(){}fn g(){}");
        Check.same("fn", f -> x.fn(f, 0), BAD, 2, 3, 7, 8, 9);
        Check.same("fn", f -> x.fn(f, 0), BAD, Check.NEVER);
        Check.same("fn what", w -> x.fn(0, w), BAD, 8, 9);
        Check.same("fn what", w -> x.fn(0, w), BAD, Check.NEVER);
        ShapeEngine none = Check.ran("print 1;");
        Check.same("no fns at all", f -> none.fn(f, 0), BAD, 0, 1);
        StringBuilder most = new StringBuilder();
        for (int f = 0; f < 8; f++) most.append("fn f").append(f).append("(a){}");
        ShapeEngine eight = Check.ran(most.toString());
        Check.due("the eighth", eight.fn(7, 0), 1);
        Check.due("no ninth", eight.fn(8, 0), BAD);
    }
}
