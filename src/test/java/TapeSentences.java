import java.lang.reflect.Constructor;
import java.lang.reflect.Field;
import java.lang.reflect.Method;
import java.lang.reflect.Modifier;
import java.util.Set;
import java.util.TreeSet;

/** The face, the tape and its refusals, and the promises 1 to 4 and 18. */
final class TapeSentences {
    private static final int NONE = ShapeEngine.NONE, BAD = ShapeEngine.BAD, STATE = ShapeEngine.STATE,
        FULL = ShapeEngine.FULL;

    private TapeSentences() {
    }

    /** An engine with so many blanks on its tape. */
    private static ShapeEngine taped(int bytes) {
        ShapeEngine x = new ShapeEngine();
        Check.feed(x, Check.bytes(" ".repeat(bytes)));
        Check.due("bytes of the tape", x.count(4), bytes);
        return x;
    }

    /** Of all that an engine tells, so much that a change of anything shows; less than 120 calls. */
    private static long[] told(ShapeEngine x) {
        long[] all = new long[120];
        int n = 0;
        for (int w = 0; w < 16; w++) all[n++] = x.told(w);
        for (int w = 0; w < 4; w++) all[n++] = x.count(w);
        for (int i = 0; i < 3; i++) {
            all[n++] = x.paper(i, 0);
            all[n++] = x.paper(i, 1);
            all[n++] = x.printed(i);
        }
        for (int o = 0; o < 2; o++) {
            for (int w = 0; w < 3; w++) all[n++] = x.object(o, w);
            for (int w = 0; w < 4; w++) all[n++] = x.shape(o, w);
            all[n++] = x.member(o, 0, 0);
            all[n++] = x.worth(o, 0);
            all[n++] = x.letter(o, 0, 0);
            for (int w = 0; w < 4; w++) all[n++] = x.row(o, w);
            all[n++] = x.item(o, 1);
            for (int w = 0; w < 9; w++) all[n++] = x.site(o, w);
            for (int w = 0; w < 8; w++) all[n++] = x.fn(o, w);
        }
        return all;
    }

    private static void stays(String what, ShapeEngine x, long[] before) {
        long[] now = told(x);
        for (int i = 0; i < now.length; i++) Check.due(what + ": answer " + i, now[i], before[i]);
    }

    private static final String BUSY = "fn f(o){return o.x+1;}fn g(){}let o=new();let p=new(o);o.x=3;g();"
        + "let r=row(2);r[1]=none;let s=row(1);s[0]=300;print f(o);print p;print f(p)+none;";

    @Sentence(promise = 1, says = "public static final int NONE = -1, BAD = -2, STATE = -3, FULL = -4;")
    static void constants() {
        Check.due("NONE", ShapeEngine.NONE, -1);
        Check.due("BAD", ShapeEngine.BAD, -2);
        Check.due("STATE", ShapeEngine.STATE, -3);
        Check.due("FULL", ShapeEngine.FULL, -4);
    }

    @Sentence(promise = 1, says = {"public final class ShapeEngine {", "public ShapeEngine();",
        "public int feed(int n, long bytes);", "public int read();", "public int fault(int what);",
        "public int run(int limit);", "public int told(int what);", "public int paper(int i, int what);",
        "public long printed(int i);", "public int object(int o, int what);",
        "public int member(int o, int i, int what);", "public long worth(int o, int i);",
        "public int letter(int o, int i, int k);", "public int row(int r, int what);", "public long item(int r, int i);",
        "public int shape(int s, int what);", "public int site(int s, int what);", "public int fn(int f, int what);",
        "public int count(int what);"})
    static void faceAndNoMoreOfIt() throws NoSuchMethodException {
        Method self = TapeSentences.class.getDeclaredMethod("faceAndNoMoreOfIt");
        Set<String> want = new TreeSet<>();
        for (String line : self.getAnnotation(Sentence.class).says()) {
            if (!line.matches("public (int|long) .*")) continue;
            want.add(line.replaceAll("^public |;$", "").replaceAll("(int|long) \\w+(?=[,)])", "$1").replace(", ", ","));
        }
        Check.due("methods of the document's face", want.size(), 17);
        Set<String> got = new TreeSet<>();
        for (Method m : ShapeEngine.class.getDeclaredMethods()) {
            if (Modifier.isPrivate(m.getModifiers()) || m.isSynthetic()) continue;
            String all = m.toString();
            Check.due("public: " + all, Modifier.isPublic(m.getModifiers()) ? 1 : 0, 1);
            got.add(m.getReturnType() + " " + m.getName() + all.substring(all.indexOf('(')));
        }
        Check.due("methods " + got, got.equals(want) ? 1 : 0, 1);
        Set<String> fields = new TreeSet<>();
        for (Field f : ShapeEngine.class.getDeclaredFields()) {
            if (!Modifier.isPrivate(f.getModifiers()) && !f.isSynthetic()) fields.add(f.getName());
        }
        Check.due("constants " + fields, fields.equals(Set.of("NONE", "BAD", "STATE", "FULL")) ? 1 : 0, 1);
        Check.due("a final class", Modifier.isFinal(ShapeEngine.class.getModifiers()) ? 1 : 0, 1);
        Constructor<?>[] made = ShapeEngine.class.getDeclaredConstructors();
        Check.due("constructors", made.length, 1);
        Check.due("what it takes", made[0].getParameterCount(), 0);
    }

    @Sentence(promise = 1, says = "An object is used for at most 512 calls after it has been made")
    static void theLastOfItsCalls() {
        ShapeEngine x = new ShapeEngine();
        String text = "print 7" + " ".repeat(500) + ";";
        for (int i = 0; i < 508; i++) Check.due("feed", x.feed(1, text.charAt(i)), i + 1);
        Check.due("call 509", x.read(), 0);
        Check.due("call 510", x.run(1), 0);
        Check.due("call 511", x.printed(0), 7);
        Check.due("call 512", x.count(0), 508);
    }

    @Sentence(promise = 5, says = "An object is used for at most 512 calls after it has been made")
    static void dearRunsToTheLastOfItsCalls() {
        ShapeEngine x = new ShapeEngine();
        String text = "let p=none;while 1{p=new(p);p.a=1;p.b=1;p.c=1;p.d=1;p.e=1;p.f=1;p.g=1;p.h=1;p.i=row(50);}";
        int calls = (text.length() + 7) / 8;
        Check.due("sites", Check.read(x, text), 9);
        calls++;
        for (; calls < 510; calls++) Check.due("run", x.run(20000), 1);
        Check.due("call 511: no room for a row", x.told(0), 6);
        Check.due("call 512: rows", x.told(6), 60);
    }

    @Sentence(promise = 2, says = "THE TAPE has at most 1500 bytes;")
    static void tapeOf1500() {
        Check.due("the 1500th", taped(1499).feed(1, 32), 1500);
        Check.due("the 1501st", taped(1500).feed(1, 32), FULL);
        Check.due("far above", taped(1500).feed(8, 32), FULL);
        Check.due("the 1493rd to the 1500th", taped(1492).feed(8, 32), 1500);
    }

    @Sentence(promise = 3, says = "read() takes it as THE TEXT.")
    static void allOfAFullTapeIsTheText() {
        String all = "print 7" + " ".repeat(1492) + ";";
        ShapeEngine x = new ShapeEngine();
        Check.due("a text of 1500 bytes", Check.read(x, all), 0);
        Check.due("its bytes", x.count(0), 1500);
        Check.due("it runs", x.run(1), 0);
        Check.due("printed", x.printed(0), 7);
        Check.fault(1, all.substring(0, 1499) + "#");
        Check.fault(1, all.substring(0, 1499) + "#@");
    }

    @Sentence(promise = 3, says = "read() takes it as THE TEXT.")
    static void aTextOf1500Tokens() {
        ShapeEngine x = Check.with("1;".repeat(749) + "7;");
        Check.due("it runs", x.run(750), 0);
        Check.due("750 steps", x.told(2), 750);
        Check.fault(1, "1;".repeat(749) + "1+#");
        Check.fault(1, "1;".repeat(749) + "1#=");
    }

    @Sentence(promise = 1, says = "NONE is -1.")
    static void noneIsOneBelowZero() {
        ShapeEngine x = new ShapeEngine();
        Check.due("no place", x.fault(1), -1);
        Check.due("no place of a failure", x.told(1), -1);
        Check.due("nothing on the paper", x.paper(0, 0), -1);
    }

    @Sentence(promise = {2, 5}, says = {"Refusals, the first that fits:", "STATE (-3), FULL (-4);"})
    static void firstRefusalThatFits() {
        ShapeEngine x = new ShapeEngine();
        Check.same("BAD ahead of STATE: run", x::run, BAD, 0, 20001);
        Check.same("BAD ahead of STATE: run", x::run, BAD, Check.NEVER);
        Check.same("STATE alone: run", x::run, STATE, 1, 2, 19999, 20000);
        ShapeEngine full = taped(1500);
        Check.same("BAD ahead of FULL: feed", n -> full.feed(n, 0), BAD, 0, 9);
        Check.same("BAD ahead of FULL: feed", n -> full.feed(n, 0), BAD, Check.NEVER);
        Check.same("FULL alone: feed", n -> full.feed(n, 0), FULL, 1, 2, 3, 4, 5, 6, 7, 8);
    }

    @Sentence(promise = {2, 5}, says = {"BAD (-2: a number is none such or outside what is told)",
        "they change nothing."})
    static void refusalsChangeNothing() {
        ShapeEngine x = new ShapeEngine();
        Check.read(x, BUSY);
        Check.due("run", x.run(500), 1);
        Check.feed(x, Check.bytes(" ".repeat(1495)));
        long[] before = told(x);
        Check.same("feed", n -> x.feed(n, 33), BAD, 0, 9, -1);
        Check.same("feed", n -> x.feed(n, 33), FULL, 6, 7, 8);
        Check.same("run", x::run, BAD, 0, 20001, -1);
        Check.same("fault, told, count", w -> x.fault(w) + x.told(w) + x.count(w), 3 * BAD, -1, 16);
        Check.same("paper, member", w -> x.paper(0, w) + x.member(0, 0, w), 2 * BAD, -1, 2);
        Check.same("object, row", o -> x.object(o, 0) + x.row(o, 0), 2 * BAD, -1, 2);
        Check.same("shape, site, fn", n -> x.shape(n, 0) + x.site(n, 0) + x.fn(n, 0), 3 * BAD, -1, 7);
        stays("behind refusals", x, before);
        Check.due("the tape stays", x.count(4), 1495);
        Check.due("and takes what fits", x.feed(5, Check.packed("     ")), 1500);
        Check.due("nothing of what was refused is on it", x.read(), 0);
    }

    @Sentence(promise = 5, says = {"STATE (-3)", "they change nothing."})
    static void aRunWithoutTextChangesNothing() {
        ShapeEngine x = new ShapeEngine();
        x.feed(8, Check.packed("print 7;"));
        Check.due("run", x.run(1), STATE);
        Check.due("the tape", x.count(4), 8);
        for (int w = 0; w < 16; w++) Check.due("told " + w, x.told(w), w == 1 ? NONE : 0);
        Check.due("read", x.read(), 0);
        Check.due("run", x.run(1), 0);
    }

    @Sentence(promise = 1, says = "No TEXT, an empty TAPE.")
    static void aNewObject() {
        ShapeEngine x = new ShapeEngine();
        Check.each("count", x::count, 0, 0, 0, 0, 0);
        Check.due("no text", x.run(1), STATE);
        Check.same("site", s -> x.site(s, 0), BAD, 0, 1);
        Check.same("fn", f -> x.fn(f, 0), BAD, 0, 1);
        Check.due("the tape has what is fed alone", x.feed(1, 32), 1);
    }

    @Sentence(promise = 1, says = "No TEXT, an empty TAPE.")
    static void aNewObjectTellsOfNothing() {
        ShapeEngine x = new ShapeEngine();
        Check.due("paper", x.paper(0, 0), NONE);
        Check.due("printed", x.printed(0), 0);
        Check.same("object", w -> x.object(0, w), BAD, 0, 1, 2);
        Check.same("member", w -> x.member(0, 0, w), BAD, 0, 1);
        Check.due("worth", x.worth(0, 0), 0);
        Check.due("letter", x.letter(0, 0, 0), 0);
        Check.same("row", w -> x.row(0, w), BAD, 0, 1, 2);
        Check.due("item", x.item(0, 0), 0);
        Check.same("shape", w -> x.shape(0, w), BAD, 0, 1, 2, 3);
    }

    @Sentence(promise = 1, says = "No TEXT, an empty TAPE.")
    static void anEmptyTapeCanBeRead() {
        ShapeEngine x = new ShapeEngine();
        Check.due("read", x.read(), 0);
        Check.due("no fault", x.fault(0), 0);
        Check.due("now there is a text", x.run(1), 0);
        Check.due("without steps", x.told(2), 0);
    }

    @Sentence(promise = 2, says = "The n lowest bytes of a number, the lowest first, come behind THE TAPE:")
    static void lowestBytesFirst() {
        String text = "print 78;let a=1";
        for (int n = 1; n <= 8; n++) {
            ShapeEngine x = new ShapeEngine();
            // The bytes above the n lowest are @, which can stand nowhere in a text.
            long above = n == 8 ? 0 : 0x4040404040404040L << (8 * n);
            x.feed(n, Check.packed(text.substring(0, n)) | above);
            x.feed(8, Check.packed(text.substring(n, n + 8)));
            Check.feed(x, Check.bytes(text.substring(n + 8) + ";"));
            Check.due("read of " + n + " and the rest", x.read(), 0);
            Check.due("run", x.run(9), 0);
            Check.due("printed", x.printed(0), 78);
        }
    }

    @Sentence(promise = 2, says = "The n lowest bytes of a number, the lowest first, come behind THE TAPE:")
    static void bytesFrom128On() {
        for (int n = 1; n <= 8; n++) {
            ShapeEngine x = new ShapeEngine();
            Check.due("feed of the bytes 255", x.feed(n, -1L), n);
            Check.due("read", x.read(), -11);
            Check.due("place", x.fault(1), 0);
            String blanks = " ".repeat(n - 1);
            Check.due("feed of one byte 128", x.feed(n, Check.packed(blanks + "\u0080")), n);
            Check.due("read", x.read(), -11);
            Check.due("the highest is the last", x.fault(1), n - 1);
        }
    }

    @Sentence(promise = 2, says = "how many it has.")
    static void howManyTheTapeHas() {
        ShapeEngine x = new ShapeEngine();
        int all = 0;
        for (int n = 1; n <= 8; n++) {
            all += n;
            Check.due("feed of " + n, x.feed(n, 0), all);
            Check.due("count(4)", x.count(4), all);
        }
        x.read();
        Check.due("from nothing again", x.feed(3, 0), 3);
    }

    @Sentence(promise = 2, says = "BAD: n is not 1 .. 8.")
    static void feedOfNoneOrTooMany() {
        ShapeEngine x = new ShapeEngine();
        Check.same("feed", n -> x.feed(n, 32), BAD, 0, 9, 10, 64, 256 + 1, 65536 + 8, 1500, 1501);
        Check.same("feed", n -> x.feed(n, 32), BAD, Check.NEVER);
        Check.due("nothing came", x.count(4), 0);
        Check.due("the least", x.feed(1, 32), 1);
        Check.due("the most", x.feed(8, 32), 9);
    }

    @Sentence(promise = 2, says = "FULL.")
    static void feedThatJustFits() {
        for (int n = 1; n <= 8; n++) {
            Check.due("the last " + n, taped(1500 - n).feed(n, 32), 1500);
            ShapeEngine x = taped(1500 - n + 1);
            Check.due("one too many: " + n, x.feed(n, 32), FULL);
            Check.due("none of them came", x.count(4), 1500 - n + 1);
            if (n > 1) Check.due("one less fits", x.feed(n - 1, 32), 1500);
        }
    }

    @Sentence(promise = 3, says = "THE TAPE, which is empty then, is THE TEXT:")
    static void theTapeIsEmptyThen() {
        ShapeEngine x = new ShapeEngine();
        Check.due("read", Check.read(x, "print 1;print 2;"), 0);
        Check.due("bytes of the text", x.count(0), 16);
        Check.due("bytes of the tape", x.count(4), 0);
        Check.due("the text is the tape alone", Check.read(x, "print 3;"), 0);
        Check.due("bytes of the text", x.count(0), 8);
        x.run(9);
        Check.due("what the paper got", x.told(7), 1);
        Check.due("printed", x.printed(0), 3);
        Check.due("an empty tape is a text too", x.read(), 0);
        Check.due("bytes of the text", x.count(0), 0);
        Check.due("it runs", x.run(1), 0);
        Check.due("nothing is printed", x.told(7), 0);
    }

    @Sentence(promise = 3, says = "THE TAPE, which is empty then, is THE TEXT:")
    static void aFullTapeCanBeFedAnewBehindARead() {
        ShapeEngine x = taped(1500);
        Check.due("read", x.read(), 0);
        Check.due("feed", x.feed(8, 0x2020202020202020L), 8);
        Check.due("bytes of the text stay", x.count(0), 1500);
    }

    @Sentence(promise = 3, says = {"THE TAPE, which is empty then, is THE TEXT:", "how many SITES it has;"})
    static void manyTextsOneBehindAnother() {
        ShapeEngine x = new ShapeEngine();
        String one = "fn f(a,b){return a+b;}let o=new();o.x=f(1,2);print o.x;";
        String two = "fn g(a){return a;}fn h(){}let v=1;let w=g(v);print w;";
        for (int round = 0; round < 6; round++) {
            boolean first = round % 3 < 2;
            Check.due("sites in round " + round, Check.read(x, first ? one : two), first ? 3 : 0);
            Check.each("count", x::count, first ? one.length() : two.length(), first ? 1 : 2, first ? 3 : 0, first ? 1 : 2, 0);
            Check.due("names of the first fn", x.fn(0, 0), first ? 2 : 1);
            Check.due("run", x.run(99), 0);
            Check.due("printed", x.printed(0), first ? 3 : 1);
        }
    }

    @Sentence(promise = 3, says = "THE TAPE, which is empty then, is THE TEXT:")
    static void longTextsOneBehindAnother() {
        ShapeEngine x = new ShapeEngine();
        String text = "1;".repeat(496) + "print 7;";
        for (int round = 0; round < 4; round++) Check.due("read", Check.read(x, text), 0);
        Check.due("run", x.run(497), 0);
        Check.due("printed", x.printed(0), 7);
    }

    @Sentence(promise = {3, 4}, says = {"THE TAPE, which is empty then, is THE TEXT:", "Of the latest read():"})
    static void nothingOfALongerTextIsLeft() {
        ShapeEngine x = new ShapeEngine();
        String[] longer = {"let a==1;", "print 12;", "let ab=1;", "print a<b;"};
        String[] shorter = {"let a=", "print 1", "let a", "print "};
        for (int i = 0; i < longer.length; i++) {
            Check.read(x, longer[i]);
            Check.due("read of " + shorter[i], Check.read(x, shorter[i]), -11);
            Check.due("it ends too early", x.fault(1), shorter[i].length());
        }
        Check.read(x, "print 123;print 4;");
        Check.due("a shorter one", Check.read(x, "print 1;"), 0);
        Check.due("run", x.run(9), 0);
        Check.due("it alone", x.told(7), 1);
        Check.due("printed", x.printed(0), 1);
    }

    @Sentence(promise = {3, 4}, says = {"all but THE TAPE stays.", "Of the latest read():"})
    static void nothingOfAFaultyTextIsLeft() {
        ShapeEngine x = new ShapeEngine();
        String[] faulty = {"print ((((((((", "if 1{if 1{if 1{", "fn f(a,a){}", "fn f(){let o=o.x+1;", "print a;", "--------"};
        String good = "fn f(a){return a;}print ((((((((1))))))));let b=f(2)+1;";
        for (String text : faulty) {
            Check.due("a fault", Check.read(x, text) < 0 ? 1 : 0, 1);
            Check.due("none behind it", Check.read(x, good), 1);
            Check.each("fault", x::fault, 0, NONE);
            Check.each("count", x::count, good.length(), 1, 1, 1);
            Check.due("names", x.fn(0, 0), 1);
            Check.read(x, text);
            Check.due("nine are too many open ones still", Check.read(x, "print (((((((((1)))))))));"), -11);
            Check.due("the ninth", x.fault(1), 14);
        }
    }

    @Sentence(promise = 3, says = "how many SITES it has;")
    static void howManySites() {
        Check.fine("", 0);
        Check.fine("print 1;", 0);
        Check.fine("print 1+1;", 1);
        Check.fine("fn f(o){return o.x*2;}let o=new();o.x=1;del o.x;", 4);
        Check.fine("print 1" + "+1".repeat(79) + ";", 79);
        Check.fine("print 1" + "+1".repeat(80) + ";", 80);
    }

    @Sentence(promise = 3, says = "nothing has run.")
    static void nothingHasRunBehindARead() {
        ShapeEngine x = Check.ran("fn f(o){return o.x+1;}let o=new();o.x=1;let r=row(2);print f(o);print r;print o;");
        Check.due("sites", Check.read(x, "fn h(o){return o.x+1;}fn g(){}let o=new();o.x=1;print o.x;"), 4);
        for (int w = 0; w < 16; w++) Check.due("told " + w, x.told(w), w == 1 ? NONE : 0);
        Check.due("paper", x.paper(0, 0), NONE);
        Check.due("printed", x.printed(0), 0);
        Check.due("object", x.object(0, 0), BAD);
        Check.due("member", x.member(0, 0, 0), BAD);
        Check.due("worth", x.worth(0, 0), 0);
        Check.due("letter", x.letter(0, 0, 0), 0);
        Check.due("row", x.row(0, 0), BAD);
        Check.due("shape", x.shape(0, 0), BAD);
        for (int s = 0; s < 4; s++) {
            int site = s;
            Check.same("site " + s, w -> x.site(site, w), 0, 2, 3, 4, 5, 7);
            Check.due("entry of site " + s, x.site(s, 8), NONE);
        }
        for (int f = 0; f < 2; f++) {
            int fn = f;
            Check.each("fn " + f, w -> x.fn(fn, w + 1), 0, 0, 0, 0, 0, 0, NONE);
        }
    }

    @Sentence(promise = 3, says = "-10 less the kind of its FAULT:")
    static void tenBelowTheKind() {
        Check.due("kind 1", Check.read(new ShapeEngine(), "print ;"), -11);
        Check.due("kind 2", Check.read(new ShapeEngine(), "print a;"), -12);
        Check.due("kind 3", Check.read(new ShapeEngine(), "fn f(){}f(1);"), -13);
    }

    @Sentence(promise = 3, says = "all but THE TAPE stays.")
    static void allButTheTapeStays() {
        String[] faulty = {"print ;", "print a;", "fn f(){}f(1);", "fn f(a,b){}fn g(){}let o=new();o.y=o.z+1;print"};
        for (String text : faulty) {
            ShapeEngine x = new ShapeEngine();
            Check.read(x, BUSY);
            x.run(500);
            long[] before = told(x);
            Check.due("refused: " + text, Check.read(x, text) < 0 ? 1 : 0, 1);
            Check.due("the tape is empty", x.count(4), 0);
            stays("behind a fault", x, before);
            Check.due("the text before runs as it did", x.run(500), 1);
            stays("run again", x, before);
        }
    }

    @Sentence(promise = 3, says = "all but THE TAPE stays.")
    static void noTextStaysNoText() {
        for (String text : new String[] {"print ;", "print a;", "fn f(){}f(1);"}) {
            ShapeEngine x = new ShapeEngine();
            Check.read(x, text);
            Check.due("no text still", x.run(1), STATE);
            Check.each("count", x::count, 0, 0, 0, 0, 0);
            Check.due("no site", x.site(0, 0), BAD);
            Check.due("no fn", x.fn(0, 0), BAD);
        }
    }

    @Sentence(promise = 4, says = {"Of the latest read(): 0 the kind, 1 the place of its FAULT",
        "(0, NONE without one, or ahead of any)."})
    static void faultOfTheLatestRead() {
        ShapeEngine x = new ShapeEngine();
        Check.each("ahead of any", x::fault, 0, NONE);
        Check.read(x, "print a;");
        Check.each("kind 2", x::fault, 2, 6);
        Check.read(x, "@");
        Check.each("kind 1, at the first byte", x::fault, 1, 0);
        Check.read(x, "fn f(){}f(1);");
        Check.each("kind 3", x::fault, 3, 8);
        Check.read(x, "print 1;");
        Check.each("without one", x::fault, 0, NONE);
        x.run(1);
        x.feed(1, '@');
        Check.each("till the next read", x::fault, 0, NONE);
        x.read();
        Check.each("the next one's", x::fault, 1, 0);
        x.run(1);
        x.feed(1, ' ');
        Check.each("no run or feed changes it", x::fault, 1, 0);
        x.read();
        Check.each("without one again", x::fault, 0, NONE);
        Check.read(x, " ".repeat(1493) + "print 1");
        Check.each("the greatest place there is", x::fault, 1, 1500);
    }

    @Sentence(promise = 4, says = "BAD.")
    static void faultHasTwoNumbers() {
        ShapeEngine x = new ShapeEngine();
        Check.same("ahead of any", x::fault, BAD, 2, 3);
        Check.read(x, "print a;");
        Check.same("with a fault", x::fault, BAD, 2, 3, 10);
        Check.same("with a fault", x::fault, BAD, Check.NEVER);
    }

    @Sentence(promise = 18, says = "How many of THE TEXT: 0 bytes, 1 FNS, 2 SITES, 3 VARIABLES of THE MAIN;")
    static void countsOfTheText() {
        String text = "fn f(a,b){let c=a*b;return c;}fn g(){}let v=1;let w=v+2;let v=w-1; ";
        Check.each("count", Check.with(text)::count, text.length(), 2, 3, 2, 0);
        Check.each("nothing of any", Check.with("")::count, 0, 0, 0, 0, 0);
        StringBuilder most = new StringBuilder();
        for (int f = 0; f < 8; f++) most.append("fn f").append(f).append("(a){let b=a;}");
        for (int v = 0; v < 12; v++) most.append("let v").append(v).append("=1;");
        most.append("print 1").append("+1".repeat(80)).append(";");
        most.append(" ".repeat(1500 - most.length()));
        Check.each("the most of all", Check.with(most.toString())::count, 1500, 8, 80, 12, 0);
    }

    @Sentence(promise = 18, says = "4 bytes of THE TAPE.")
    static void countOfTheTape() {
        ShapeEngine x = new ShapeEngine();
        Check.due("nothing", x.count(4), 0);
        x.feed(5, 0);
        Check.due("five", x.count(4), 5);
        x.read();
        Check.due("behind a fault", x.count(4), 0);
        Check.due("all of it", taped(1500).count(4), 1500);
    }

    @Sentence(promise = 18, says = "BAD.")
    static void countHasFiveNumbers() {
        ShapeEngine x = Check.with("print 1;");
        Check.same("count", x::count, BAD, 5, 6, 100);
        Check.same("count", x::count, BAD, Check.NEVER);
    }
}
