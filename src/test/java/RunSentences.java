/** Section 2 of the terms: calls, the order of things and steps; and the promises 5 and 6. */
final class RunSentences {
    private static final int NONE = ShapeEngine.NONE, BAD = ShapeEngine.BAD, STATE = ShapeEngine.STATE;

    private RunSentences() {
    }

    // ---- calls

    @Sentence(promise = {5, 6}, says = "A CALL (at its NAME, behind its step, 5: it would be the 13th in one another;")
    static void twelveCallsInOneAnother() {
        String f = "fn f(n){if n==1{return 1;}return f(n-1)+1;}";
        ShapeEngine x = Check.papers(f + "print f(11);", 11);
        Check.due("eleven", x.told(15), 11);
        x = Check.papers(f + "print f(12);", 12);
        Check.due("twelve", x.told(15), 12);
        Check.fails(5, "fn f(n){if n==1{return 1;}return #f(n-1)+1;}print f(13);");
        Check.fails(5, "fn f(n){if n==1{return 1;}return #f(n-1)+1;}print f(536870911);");
        Check.fails(5, "fn a(){b();}fn b(){c();}fn c(){#a();}a();");
        Check.papers("fn f(n){return n;}print f(f(f(f(f(f(f(f(1))))))));" + "print f(2);".repeat(12),
            1, 2, 2, 2, 2, 2, 2, 2, 2, 2, 2, 2, 2);
    }

    @Sentence(promise = {5, 6}, says = "behind its step, 5:")
    static void tooDeepBehindItsStep() {
        // Each call of f is a step and each f(); too: the 13th call would be step 26.
        ShapeEngine x = Check.with("fn f(){f();}f();");
        Check.due("no step for it", x.run(25), 2);
        Check.due("no failure", x.told(0), 0);
        Check.due("a step for it", x.run(26), 1);
        Check.due("too deep", x.told(0), 5);
        Check.due("its step is one", x.told(2), 26);
        Check.fails(1, "fn f(n){return f(n#+none);}f(1);");
        x = Check.fails(1, "fn f(n){if n==12{return f(1#+none);}return f(n+1);}f(1);");
        Check.due("its E's go ahead of it", x.told(3), 12);
    }

    @Sentence(promise = {6, 17}, says = "it is none then)")
    static void theThirteenthIsNone() {
        ShapeEngine x = Check.fails(5, "fn f(n){if n==12{#g();}f(n+1);}fn g(){}f(1);");
        Check.due("calls", x.told(3), 12);
        Check.due("in one another", x.told(15), 12);
        Check.due("calls of f", x.fn(0, 1), 12);
        Check.due("calls of g", x.fn(1, 1), 0);
        Check.due("its count", x.fn(1, 2), 0);
        x = Check.fails(5, "fn f(n){if n==12{#f(13);}if n<9{g();}f(n+1);}fn g(){}f(1);");
        Check.due("calls of f", x.fn(0, 1), 12);
        Check.due("calls of g, ahead of it", x.fn(1, 1), 8);
        Check.due("calls", x.told(3), 20);
    }

    @Sentence(promise = 5, says = "has VARIABLES of its own, none but its E's;")
    static void variablesOfItsOwn() {
        ShapeEngine x = Check.papers("fn f(n){if n{let v=5;}print v;}f(1);f(0);", 5, 0);
        Check.due("none where no let ran", x.paper(1, 0), 0);
        x = Check.papers("fn f(a,b){print a;print b;a=7;b=8;let c=9;}let a=1;let b=2;let c=3;f(b,none);print a;print b;print c;",
            2, 0, 1, 2, 3);
        Check.due("an E's none", x.paper(1, 0), 0);
        Check.papers("fn f(n){let m=n;if 0<n{f(n-1);}print m;print n;}f(2);", 0, 0, 1, 1, 2, 2);
        ShapeEngine first = Check.papers("fn f(){if 0{let v=1;}print v;v=5;}f();f();", 0, 0);
        Check.each("the first of them, too", i -> first.paper(i, 0), 0, 0);
        ShapeEngine late = Check.papers("fn f(n){if 0{let v=1;}print v;}1+(2+(3+(4+(5+6))));f(0);", 0);
        Check.due("whatever was worked out before", late.paper(0, 0), 0);
        // Twelve calls in one another, with twelve variables each.
        Check.papers("fn f(n){let a=n;let b=n;let c=n;let d=n;let e=n;let g=n;let h=n;let i=n;let j=n;let k=n;let l=n;"
            + "if n<12{f(n+1);}print a+l;}f(1);", 24, 22, 20, 18, 16, 14, 12, 10, 8, 6, 4, 2);
    }

    @Sentence(promise = 5, says = "its value is that of return, none without.")
    static void valueOfACall() {
        ShapeEngine x = Check.ran("fn f(){}fn g(){1;}fn h(n){if n{return 4;}}fn k(){return none;}"
            + "print f();print g();print h(1);print h(0);print k();");
        Check.each("sorts", i -> x.paper(i, 0), 0, 0, 1, 0, 0);
        Check.due("the return's", x.printed(2), 4);
        Check.papers("fn f(){while 1{if 1{return 3;}}}print f()+f();", 6);
        Check.papers("fn f(){return 1;print 9;return 2;}print f();", 1);
        Check.papers("fn f(a,b){return a-b;}print 100-f(10,f(4,1))*2;", 86);
    }

    @Sentence(promise = 5, says = {"A CALL (at its NAME, behind its step, 5: it would be the 13th in one another;",
        "its value is that of return, none without."})
    static void muchThatWaitsInTwelveCalls() {
        // In each of the twelve calls 32 values wait for the next one's.
        String text = "fn g(a,b,c,d){return a+b*c+d;}fn f(n){if n==0{return 1;}return " + "1+2*g(1,2,3,".repeat(6)
            + "f(n-1)" + ")".repeat(6) + ";}print f(11);";
        long want = 1;
        for (int level = 0; level < 11 * 6; level++) want = 1 + 2 * (1 + 2 * 3 + want);
        ShapeEngine x = Check.papers(text, want);
        Check.due("in one another", x.told(15), 12);
        Check.fails(5, text.replace("1+2*g(1,2,3,f", "1+2*g(1,2,3,#f").replace("f(11)", "f(12)"));
    }

    @Sentence(promise = {7, 8}, says = "print: the PAPER gets it.")
    static void printing() {
        Check.papers("print 1;print 1;print 2;", 1, 1, 2);
        Check.papers("1;none;new();");
        ShapeEngine x = Check.fails(1, "print 1;print 2#+none;print 3;");
        Check.due("what came ahead of a failure", x.told(7), 1);
    }

    // ---- the order of things

    @Sentence(promise = {5, 6}, says = {"E = E: of a MEMBER or ITEM the parts ahead of = (the OBJECT; the ROW and the place) "
        + "are worked out first, then the E behind =, then it is put", "(2, then 1, 3 are asked then)."})
    static void partsThenEThenPut() {
        String say = "fn f(n){print n;return n;}fn o(n){print n;return new();}fn r(n){print n;return row(9);}";
        Check.papers(say + "o(1).x=f(2);r(3)[f(4)]=f(5);", 1, 2, 3, 4, 5);
        Check.fails(1, "none.x=1#+none;");
        Check.fails(1, "none[0]=1#+none;");
        Check.fails(1, "row(1)[none]=1#+none;");
        Check.fails(1, "row(1)[9]=1#+none;");
        Check.fails(1, "none[1#+none]=none.x;");
        Check.fails(2, "none#.x.y=1+none;");
        Check.fails(2, "none#[0][1]=1+none;");
        Check.fails(2, "none#.x=1;");
        Check.fails(2, "none#[none]=1;");
        Check.fails(1, "row(1)#[none]=1;");
        Check.fails(3, "row(1)#[1]=1;");
        ShapeEngine x = Check.fails(2, say + "f(1)#.x=f(2);");
        Check.due("the E behind = ran", x.told(7), 2);
        x = Check.fails(3, say + "r(1)#[f(9)]=f(2);");
        Check.each("all parts ran", x::printed, 1, 9, 2);
    }

    @Sentence(promise = 5, says = "are worked out first, then the E behind =, then it is put")
    static void theObjectAheadIsTheOneThatWas() {
        Check.papers("fn f(o){o.y=7;return 3;}let a=new();a.x=f(a);print size(a);print a.x;print a.y;", 2, 3, 7);
        ShapeEngine x = Check.ran("fn f(o){o.y=7;return 3;}let a=new();a.x=f(a);");
        Check.each("the put comes last", i -> x.letter(0, i, 0), 'y', 'x');
        Check.papers("fn f(r){r[0]=1;return r[0]+1;}let r=row(1);r[0]=f(r);print r[0];", 2);
        ShapeEngine y = Check.ran("fn f(r){r[0]=none;return 300;}let r=row(1);r[0]=f(r);");
        Check.due("widened once, ahead of the put", y.told(14), 1);
    }

    @Sentence(promise = {5, 6}, says = "let, print, return, if, while, del: E, then so.")
    static void eThenSo() {
        Check.papers("fn f(){print 1;return 2;}print f();", 1, 2);
        Check.papers("fn f(){print 1;return 2;}let a=f();print a;", 1, 2);
        Check.papers("fn f(){print 1;return 2;}fn g(){return f();}print g();", 1, 2);
        Check.papers("fn f(){print 1;return 0;}if f(){print 2;}else{print 3;}while f(){}", 1, 3, 1);
        ShapeEngine x = Check.ran("fn f(o){o.x=1;return o;}let a=new();del f(a).x;");
        Check.due("struck behind its E", x.object(0, 0), NONE);
        Check.due("nothing is left", x.object(0, 2), 0);
        Check.fails(1, "let a=1#+none;");
        Check.fails(1, "return 1#+none;");
        Check.fails(1, "if 1#+none{}");
        Check.fails(1, "while 1#+none{}");
        Check.fails(2, "del none#.x.y;");
        x = Check.fails(1, "print 1#+none;");
        Check.due("nothing is printed", x.told(7), 0);
    }

    // ---- steps

    /** A text that takes just so many steps. */
    private static void takes(int steps, String text) {
        ShapeEngine x = Check.with(text);
        Check.due("just enough for " + text, x.run(steps), 0);
        Check.due("steps of " + text, x.told(2), steps);
        Check.due("more than enough for " + text, x.run(20000), 0);
        Check.due("steps of " + text, x.told(2), steps);
        if (steps < 2) return;
        Check.due("one too few for " + text, x.run(steps - 1), 2);
        Check.due("steps that there were for " + text, x.told(2), steps - 1);
        Check.due("no failure", x.told(0), 0);
        Check.due("no place", x.told(1), NONE);
    }

    @Sentence(promise = {5, 6}, says = "each STEP that begins (a while each time it asks its E)")
    static void stepsThatBegin() {
        takes(1, "1;");
        takes(1, "let a=1;");
        takes(2, "let a=1;a=2;");
        takes(1, "print 1;");
        takes(1, "return 1;");
        takes(1, "return 1;print 2;print 3;");
        takes(1, "del new().x;");
        takes(1, "new().x=1;");
        takes(1, "if 0{}");
        takes(1, "if 1{}else{}");
        takes(1, "if 0{print 1;}");
        takes(2, "if 1{print 1;}else{print 2;print 3;}");
        takes(3, "if 0{print 1;}else{print 2;print 3;}");
        takes(3, "if 1{if 1{print 1;}}");
        takes(1, "while 0{}");
        takes(1 + 2 + 1, "let i=1;while i{i=0;}");
        takes(1 + 4 + 3, "let i=0;while i<3{i=i+1;}");
        takes(1 + 4 + 3 * 3, "let i=0;while i<3{if 1{i=i+1;}print i;}");
        Check.due("none at all", Check.with("").run(1), 0);
        Check.due("none of fns", Check.with("fn f(){print 1;}").run(1), 0);
    }

    @Sentence(promise = {5, 6}, says = "and each CALL (behind its E's) is one;")
    static void callsAreSteps() {
        takes(2, "fn f(){}f();");
        takes(3, "fn f(){}f()==f();");
        takes(3, "fn f(){return 1;}f();");
        takes(4, "fn f(){1;2;}f();");
        takes(1 + 2 * 2, "fn f(a){return a;}f(f(1));");
        ShapeEngine x = Check.with("fn f(){print 7;}fn g(a){print a;}g(f());");
        Check.due("spent at the outer call", x.run(3), 2);
        Check.due("its E's call ran", x.told(7), 1);
        Check.due("calls", x.told(3), 1);
        Check.due("spent at its first step", x.run(4), 2);
        Check.due("calls", x.told(3), 2);
        Check.due("spent ahead of any call", x.run(1), 2);
        Check.due("calls", x.told(3), 0);
    }

    @Sentence(promise = {5, 6}, says = "where one more would be, it is SPENT.")
    static void spent() {
        ShapeEngine x = Check.with("print 1;print 2;print 3;");
        for (int limit = 1; limit <= 3; limit++) {
            Check.due("run with " + limit, x.run(limit), limit < 3 ? 2 : 0);
            Check.due("printed till then", x.told(7), limit);
        }
        x = Check.with("print 1;print 1+none;");
        Check.due("spent ahead of the failure", x.run(1), 2);
        Check.due("failed", x.run(2), 1);
        x = Check.with("print 1;return 2;");
        Check.due("spent ahead of the return", x.run(1), 2);
        Check.due("ended", x.run(2), 0);
    }

    @Sentence(promise = {5, 6}, says = "STEPS: a RUN has a LIMIT;")
    static void theGreatestLimit() {
        ShapeEngine x = Check.with("let i=0;while i<9999{i=i+1;}");
        Check.due("20000 steps", x.run(20000), 0);
        Check.due("all of them", x.told(2), 20000);
        Check.due("one too few", x.run(19999), 2);
        Check.due("all of them", x.told(2), 19999);
        x = Check.with("let i=0;while i<9999{i=i+1;}print i;");
        Check.due("20001 steps", x.run(20000), 2);
        Check.due("nothing is printed", x.told(7), 0);
        x = Check.with("while 1{}");
        Check.due("no end", x.run(20000), 2);
        Check.due("all of them", x.told(2), 20000);
        // The longest E's that a text can have, worked out at each step.
        x = Check.with("let r=row(1);while 1" + "-(0<0)".repeat(80) + "{" + "1;".repeat(480) + "}");
        Check.due("long steps", x.run(20000), 2);
        Check.due("all of them", x.told(2), 20000);
    }

    // ---- promise 5

    @Sentence(promise = 5, says = "THE TEXT runs anew, from nothing (no OBJECTS, SHAPES, what SITES keep and FNS count):")
    static void runsAnew() {
        ShapeEngine x = Check.with("fn f(o){return o.x+1;}let a=new();a.x=1;let b=new();b.x=1;del b.x;let r=row(2);r[0]=none;"
            + "let i=0;while i<5{print f(a);i=i+1;}a.x=536870911*2;a.x=a.x+1;print f(a);");
        long[][] seen = new long[3][];
        for (int run = 0; run < 3; run++) {
            Check.due("run", x.run(20000), 0);
            seen[run] = facts(x);
        }
        for (int i = 0; i < seen[0].length; i++) {
            Check.due("fact " + i + " of the second run", seen[1][i], seen[0][i]);
            Check.due("fact " + i + " of the third run", seen[2][i], seen[0][i]);
        }
        Check.due("a short run", x.run(2), 2);
        Check.due("objects", x.told(4), 1);
        Check.due("shapes", x.told(5), 2);
        Check.due("rows", x.told(6), 0);
        Check.due("paper", x.told(7), 0);
        Check.due("no paper", x.paper(0, 0), NONE);
        Check.due("no row", x.row(0, 0), BAD);
        Check.due("no second object", x.object(1, 0), BAD);
        Check.due("no third shape", x.shape(2, 0), BAD);
        Check.each("fn 0", w -> x.fn(0, w), 1, 0, 0, 0, 0, 0, 0, NONE);
        Check.each("site 0", w -> x.site(0, w + 2), 0, 0, 0, 0, 0, 0, NONE);
        Check.due("what the sum gave", x.site(1, 4), 0);
    }

    @Sentence(promise = 5, says = "THE TEXT runs anew, from nothing (no OBJECTS, SHAPES, what SITES keep and FNS count):")
    static void runsAnewBehindMuchThatWasSeen() {
        ShapeEngine x = Check.with("fn f(o){return o.x;}fn g(o){return o.y==1+1;}let a=new();let b=new(a);" + "g(a);".repeat(4)
            + "f(a);f(b);a.p=1;f(a);a.q=1;f(a);a.r=1;f(a);a.s=1;f(a);a.t=1;f(a);f(b);let r=row(1);r[0]=300;");
        Check.due("all of it", x.run(999), 0);
        Check.due("many", x.site(0, 5), 1);
        Check.due("broken", x.told(11), 1);
        Check.each("guesses", s -> x.site(s, 7), 0, 1, 1);
        Check.due("widened", x.told(14), 1);
        Check.due("a bit of it", x.run(1), 2);
        Check.each("told", w -> x.told(w + 3), 0, 1, 1, 0, 0, 0, 0, 0, 0, 0, 0, 0, 0);
        for (int s = 0; s < 3; s++) {
            int site = s;
            Check.each("site " + s, w -> x.site(site, w + 2), 0, 0, 0, 0, s == 0 ? 0 : 1, 0, NONE, NONE, NONE, NONE);
        }
        Check.each("fn 1", w -> x.fn(1, w), 1, 0, 0, 0, 0, 0, 0, NONE);
    }

    @Sentence(promise = 5, says = "THE TEXT runs anew, from nothing")
    static void runsAnewBehindRunsThatFailed() {
        ShapeEngine x = Check.with("fn f(){print 7;return 1+(1+(1+(1+(1+none))));}print 1+(1+(1+(1+f())));");
        for (int run = 0; run < 240; run++) {
            Check.due("run " + run, x.run(99), 1);
            Check.due("printed in run " + run, x.printed(0), 7);
        }
        ShapeEngine y = Check.with("if 0{let v=1;let w=1;}print v;print w;v=5;w=6;");
        for (int run = 0; run < 2; run++) {
            Check.due("run " + run, y.run(99), 0);
            Check.each("variables are none", i -> y.paper(i, 0), 0, 0);
        }
    }

    @Sentence(promise = 5, says = "THE TEXT runs anew, from nothing")
    static void theMostOfAllInEachRun() {
        ShapeEngine rows = Check.with("let i=0;let r=none;while i<60{r=row(50);r[49]=i;r[0]=r[49];i=i+1;}print r[0];");
        for (int run = 0; run < 3; run++) {
            Check.due("run", rows.run(20000), 0);
            Check.each("last items", r -> rows.item(r, 49), 0, 1, 2, 3);
            Check.due("the last item of all", rows.item(59, 49), 59);
            Check.due("printed", rows.printed(0), 59);
        }
        StringBuilder puts = new StringBuilder();
        for (int n = 0; n < 76; n++) puts.append("o.n").append(n).append("=").append(n).append(";");
        // Members that are struck and put again, behind 15200 others: 16050 came in all.
        ShapeEngine members = Check.with("fn f(o){" + puts + "return o;}let p=none;let i=0;while i<200{p=f(new());i=i+1;}"
            + "i=0;while i<850{del p.n0;p.n0=i;i=i+1;}");
        for (int run = 0; run < 2; run++) {
            Check.due("run", members.run(20000), 0);
            Check.due("the last that came", members.worth(199, 75), 849);
            Check.due("the one ahead of it", members.worth(199, 74), 75);
            for (int o : new int[] {0, 99, 198}) {
                Check.due("the first of " + o, members.worth(o, 0), 0);
                Check.due("the last of " + o, members.worth(o, 75), 75);
            }
        }
    }

    private static long[] facts(ShapeEngine x) {
        long[] all = new long[16 + 8 + 2 * 12 + 7];
        int n = 0;
        for (int w = 0; w < 16; w++) all[n++] = x.told(w);
        for (int w = 0; w < 8; w++) all[n++] = x.fn(0, w);
        for (int s = 0; s < 2; s++) {
            for (int w = 0; w < 12; w++) all[n++] = x.site(s, w);
        }
        for (int i = 0; i < 7; i++) all[n++] = x.printed(i);
        return all;
    }

    @Sentence(promise = 5, says = "0 it came to its end, or a return in THE MAIN, 1 it FAILED, 2 it is SPENT.")
    static void endings() {
        Check.due("its end", Check.with("print 1;").run(9), 0);
        Check.due("no steps", Check.with("").run(1), 0);
        ShapeEngine x = Check.with("print 1;while 1{if 1{return 5;}}print 2;");
        Check.due("a return in the main", x.run(9), 0);
        Check.due("nothing behind it", x.told(7), 1);
        Check.due("a return in a fn is none", Check.with("fn f(){return 1;}f();print none+1;").run(9), 1);
        Check.due("failed", Check.with("print none+1;").run(9), 1);
        Check.due("failed in a call", Check.with("fn f(){print none+1;}f();").run(9), 1);
        Check.due("spent", Check.with("while 1{}").run(9), 2);
        Check.due("spent in a call", Check.with("fn f(){while 1{}}f();").run(9), 2);
    }

    @Sentence(promise = 5, says = "BAD: limit is not 1 .. 20000.")
    static void limits() {
        ShapeEngine x = Check.with("print 1;");
        Check.same("run", x::run, 0, 1, 2, 19999, 20000);
        Check.same("run", x::run, BAD, 0, 20001, 20002, 65536 + 1);
        Check.same("run", x::run, BAD, Check.NEVER);
        Check.due("what ran before stays", x.printed(0), 1);
    }

    @Sentence(promise = 5, says = "STATE: there is no TEXT.")
    static void noText() {
        ShapeEngine x = new ShapeEngine();
        Check.same("run", x::run, STATE, 1, 20000);
        Check.read(x, "print ;");
        Check.same("behind a fault", x::run, STATE, 1, 20000);
        Check.read(x, "");
        Check.same("with an empty text", x::run, 0, 1, 20000);
    }

    // ---- promise 6

    private static final String ALL = "fn f(o){return o.x+1;}let a=new();let b=new(a);a.x=1;print f(a);print f(a);"
        + "print f(b);a.x=2;print f(b);let c=new();c.y=1;print f(c)==1;";

    @Sentence(promise = 6, says = "Of the latest run(): 0 the FAILURE (0: none), 1 its PLACE (NONE),")
    static void toldOfFailures() {
        ShapeEngine x = Check.with("print none;print 1+none;");
        x.run(1);
        Check.each("spent", x::told, 0, NONE, 1);
        x.run(9);
        Check.each("failed", x::told, 1, 18, 2);
        Check.read(x, "none+1;");
        x.run(9);
        Check.each("failed at 4", x::told, 1, 4, 1);
        Check.read(x, "-none;");
        x.run(9);
        Check.each("failed at 0", x::told, 1, 0, 1);
        Check.read(x, "print 1;");
        x.run(9);
        Check.each("ended", x::told, 0, NONE, 1);
    }

    @Sentence(promise = 6, says = "2 STEPS, 3 CALLS, 4 OBJECTS, 5 SHAPES, 6 ROWS, 7 what the PAPER got in all,")
    static void toldOfWhatWasMade() {
        ShapeEngine x = Check.with("fn f(){return row(0);}let a=new();a.x=1;a.y=2;let b=new();b.x=1;f();print f();print 1;");
        x.run(99);
        // let, two puts, let, put; f(); with its call and return; print f() likewise; print.
        Check.each("told", w -> x.told(w + 2), 5 + 3 + 3 + 1, 2, 2, 3, 2, 2);
    }

    @Sentence(promise = 6, says = "8 DICTIONARIES, 9 HITS of READ SITES, 10 MISSES of them, 11 ENTRIES that were BROKEN,")
    static void toldOfReads() {
        // f reads a: a miss, a hit; b: a miss with a way, which the put to a breaks; b again: a miss; c fails.
        ShapeEngine x = Check.with(ALL);
        Check.due("c.x is none", x.run(99), 1);
        Check.each("told", w -> x.told(w + 8), 0, 1, 4, 1);
        ShapeEngine y = Check.ran("let a=new();a.x=1;del a.x;a.y=1;del a.y;let b=new();b.x=1;del b.x;");
        Check.due("dictionaries", y.told(8), 2);
    }

    @Sentence(promise = 6, says = "12 how often FNS were MADE, 13 LEFT, 14 how often a ROW WIDENED; "
        + "15 the most CALLS in one another.")
    static void toldOfMaking() {
        ShapeEngine x = Check.with(ALL);
        x.run(99);
        // Made at the 4th call with the shape of a alone, for b's entry was broken: left by b's at once.
        Check.each("told", w -> x.told(w + 12), 1, 1, 0, 1);
        ShapeEngine y = Check.ran("fn f(n){if n{f(n-1);}}f(3);f(1);let r=row(1);r[0]=300;r[0]=none;");
        Check.each("told", w -> y.told(w + 12), 1, 0, 2, 4);
        ShapeEngine z = Check.ran("fn f(){}fn g(){}" + "f();g();".repeat(4));
        Check.each("of all fns", w -> z.told(w + 12), 2, 0, 0, 1);
    }

    @Sentence(promise = 6, says = "0 (1: NONE) ahead of any.")
    static void toldAheadOfAny() {
        ShapeEngine x = new ShapeEngine();
        for (int w = 0; w < 16; w++) Check.due("new: told " + w, x.told(w), w == 1 ? NONE : 0);
        Check.read(x, ALL);
        for (int w = 0; w < 16; w++) Check.due("read: told " + w, x.told(w), w == 1 ? NONE : 0);
        x.run(0);
        for (int w = 0; w < 16; w++) Check.due("refused: told " + w, x.told(w), w == 1 ? NONE : 0);
    }

    @Sentence(promise = 6, says = "BAD.")
    static void toldHasSixteenNumbers() {
        ShapeEngine x = new ShapeEngine();
        Check.same("new", x::told, BAD, 16, 17, 100);
        Check.same("new", x::told, BAD, Check.NEVER);
        ShapeEngine y = Check.ran("print 1;");
        Check.same("ran", y::told, BAD, 16, 17, 100);
        Check.same("ran", y::told, BAD, Check.NEVER);
    }
}
