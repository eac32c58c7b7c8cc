/** Section 2 of the terms: values, objects and rows, and how they fail; a # marks the place of a failure. */
final class ValueSentences {
    /** 2 to the 30th is the first wide; the others by their powers of 2. */
    private static final String P30 = "(536870911*2+2)", P31 = "(536870911*4+4)", P32 = "(536870911*8+8)",
        P63 = "(536870911*8+8)*(536870911*4+4)";
    /** OBJECTS and ROWS that have the numbers 0 and 1, so that a NUMBER could be taken for one of them. */
    private static final String THINGS = "let o=new();let p=new();o.x=1;p.x=1;let r=row(9);let s=row(9);";
    private static final String[] NO_OBJECTS = {"none", "0", "1", P30, P32, "r", "s"},
        NO_ROWS = {"none", "0", "1", P30, P32, "o", "p"};

    private ValueSentences() {
    }

    // ---- numbers

    @Sentence(promise = {7, 8}, says = "VALUES: none; WHOLES (-1073741824 .. 1073741823); WIDES (all other longs); "
        + "OBJECTS; ROWS.")
    static void wholesAndWides() {
        Check.prints("536870911*2+1", 1073741823L);
        Check.prints(P30, 1073741824L);
        Check.prints("-536870911*2-2", -1073741824L);
        Check.prints("-536870911*2-3", -1073741825L);
        Check.prints("0", 0);
        Check.prints("-1", -1);
        Check.prints(P32, 1L << 32);
        Check.prints("-" + P32, -(1L << 32));
        Check.prints(P63, Long.MIN_VALUE);
        Check.prints(P63 + "-1", Long.MAX_VALUE);
        ShapeEngine x = Check.ran("print none;print 1;print " + P30 + ";print new();print row(1);");
        Check.each("sort", i -> x.paper(i, 0), 0, 1, 2, 3, 4);
    }

    @Sentence(promise = {5, 8}, says = "NUMBERS are WHOLES and WIDES; what is worked out is a long that wraps,")
    static void numbersWrap() {
        String least = "let m=" + P63 + ";let g=m-1;";
        Check.papers(least + "print g+1;print m-1;print m+m;print g+g;print m-g;", Long.MIN_VALUE, Long.MAX_VALUE, 0, -2, 1);
        Check.papers(least + "print -m;print m*-1;print g*g;print m*m;print g*2;print m*2;",
            Long.MIN_VALUE, Long.MIN_VALUE, 1, 0, -2, 0);
        Check.papers(least + "print -g;print g*-1;print m<g;print g<m;print m==g+1;",
            -Long.MAX_VALUE, -Long.MAX_VALUE, 1, 0, 1);
        Check.prints(P32 + "*" + P32, 0);
        Check.prints(P32 + "*" + P32 + "+5", 5);
    }

    @Sentence(promise = {7, 16}, says = "a WHOLE if it is one.")
    static void aWholeIfItIsOne() {
        Check.prints(P30 + "-1", 1073741823L);
        Check.prints("-" + P30, -1073741824L);
        Check.prints("-(-536870911*2-2)", 1073741824L);
        Check.prints(P32 + "-" + P32, 0);
        Check.prints(P32 + "*0", 0);
        Check.prints("-" + P31 + "+" + P31, 0);
        ShapeEngine x = Check.ran("let w=" + P63 + ";print w+w;");
        Check.due("a whole that wides gave: its sort", x.paper(0, 0), 1);
        Check.due("its site gave a whole", x.site(x.count(2) - 1, 4), 1);
    }

    // ---- failures in general

    @Sentence(promise = {5, 6}, says = {"FAILURES: 1 no NUMBER, 2 no OBJECT (no ROW), 3 no such place, 4 a size, "
        + "5 too deep, 6 no room;", "each with the PLACE told;"})
    static void allFailures() {
        Check.fails(1, "print 1#+none;");
        Check.fails(2, "print none#.x;");
        Check.fails(2, "print none#[0];");
        Check.fails(3, "print row(0)#[0];");
        Check.fails(4, "print #row(51);");
        Check.fails(5, "fn f(){#f();}f();");
        Check.fails(6, "while 1{#new();}");
        Check.fails(1, "#if none{}");
        Check.fails(1, " ".repeat(1493) + "1#+none;");
    }

    @Sentence(promise = {5, 6}, says = "where several hold the one that is told first.")
    static void theOneThatIsToldFirst() {
        String objects = "let i=0;while i<200{new();i=i+1;}";
        String rows = "let i=0;while i<60{row(1);i=i+1;}";
        Check.fails(2, objects + "#new(1);");
        Check.fails(1, rows + "#row(none);");
        Check.fails(4, rows + "#row(51);");
        Check.fails(2, "print none#[none];");
        Check.fails(2, "print none#[99];");
        Check.fails(1, "print row(0)#[none];");
        Check.fails(2, "none#[none]=1;");
    }

    // ---- signs

    @Sentence(promise = {5, 6}, says = "+ - * (at the sign) and - ONE (at the -) of NUMBERS: 1.")
    static void sumsOfNumbers() {
        String[] others = {"none", "new()", "row(1)"};
        for (String other : others) {
            for (String sign : new String[] {"+", "-", "*"}) {
                Check.fails(1, "print " + other + "#" + sign + "1;");
                Check.fails(1, "print 1#" + sign + other + ";");
                Check.fails(1, "print " + other + "#" + sign + other + ";");
            }
            Check.fails(1, "print #-" + other + ";");
            Check.fails(1, "print -#-" + other + ";");
        }
        Check.prints("7+-7", 0);
        Check.prints("7--7", 14);
        Check.prints("7*-7", -49);
        Check.prints("--7", 7);
        Check.prints("-0", 0);
    }

    @Sentence(promise = {5, 8}, says = "< (at it): 1 or 0: 1.")
    static void less() {
        Check.prints("1<2", 1);
        Check.prints("2<2", 0);
        Check.prints("3<2", 0);
        Check.prints("-1<0", 1);
        Check.prints("536870911*2+1<" + P30, 1);
        Check.prints(P30 + "<536870911*2+1", 0);
        Check.prints(P63 + "<0", 1);
        Check.prints("0<" + P32, 1);
        Check.prints(P32 + "<0", 0);
        Check.prints(P63 + "<" + P63 + "-1", 1);
        for (String other : new String[] {"none", "new()", "row(1)"}) {
            Check.fails(1, "print 1#<" + other + ";");
            Check.fails(1, "print " + other + "#<1;");
            Check.fails(1, "print " + other + "#<" + other + ";");
        }
    }

    @Sentence(promise = {5, 8}, says = "== : 1 if both are the same NUMBER, none, OBJECT or ROW, else 0.")
    static void sameness() {
        // OBJECT 0, ROW 0, none and 0 are four values, and so are 1, OBJECT 1 and ROW 1.
        String[] names = {"a", "b", "c", "d", "e", "f", "g", "h", "i", "j"};
        String[] values = {"new()", "new()", "row(1)", "row(1)", "none", "0", "1", P30, P32, "-" + P30};
        StringBuilder lets = new StringBuilder();
        for (int v = 0; v < names.length; v++) lets.append("let ").append(names[v]).append("=").append(values[v]).append(";");
        for (int left = 0; left < names.length; left++) {
            StringBuilder prints = new StringBuilder();
            long[] want = new long[names.length];
            for (int right = 0; right < names.length; right++) {
                prints.append("print ").append(names[left]).append("==").append(names[right]).append(";");
                want[right] = left == right ? 1 : 0;
            }
            Check.papers(lets.toString() + prints, want);
        }
        Check.prints(P30 + "==" + P30, 1);
        Check.prints(P30 + "-1==536870911*2+1", 1);
        Check.prints("new()==new()", 0);
        Check.prints("row(0)==row(0)", 0);
    }

    @Sentence(promise = {5, 6}, says = "if, while (at them): 1; not 0 is true.")
    static void conditions() {
        for (String e : new String[] {"1", "-1", "127", P30, P32, P63, P63 + "-1"}) {
            Check.papers("if " + e + "{print 1;}else{print 2;}", 1);
            Check.papers("let i=0;while (" + e + ")*(i<2){print 1;i=i+1;}", 1, 1);
        }
        for (String e : new String[] {"0", "-0", "1-1", P32 + "*" + P32}) {
            Check.papers("if " + e + "{print 1;}else{print 2;}while " + e + "{print 3;}if " + e + "{print 4;}", 2);
        }
        for (String e : new String[] {"none", "new()", "row(1)"}) {
            Check.fails(1, "print 1;#if " + e + "{}else{}");
            Check.fails(1, "print 1;#while " + e + "{}");
        }
        Check.fails(1, "let i=1;#while i{i=none;}");
    }

    // ---- objects

    @Sentence(promise = {5, 9}, says = {"new: an OBJECT with the E's as its PARENT (2 at new: it is neither an OBJECT nor none;",
        "without E none."})
    static void parents() {
        ShapeEngine x = Check.ran("let a=new();let b=new(none);let c=new(a);let d=new(c);let e=new(b.x);");
        Check.each("parent", o -> x.object(o, 1), -1, -1, 0, 2, -1);
        for (String e : new String[] {"0", "1", "-1", P30, P32, "r", "s"}) Check.fails(2, THINGS + "print #new(" + e + ");");
        Check.fails(2, "print new(new(#new(1)));");
        Check.fails(1, "print new(1#+none);");
    }

    @Sentence(promise = {5, 6}, says = "6 at it: the 201st);")
    static void roomForObjects() {
        ShapeEngine x = Check.ran("let i=0;while i<200{new();i=i+1;}");
        Check.due("the 200th", x.told(4), 200);
        Check.due("it is there", x.object(199, 2), 0);
        x = Check.fails(6, "let i=0;while i<201{#new();i=i+1;}");
        Check.due("objects", x.told(4), 200);
        Check.due("no 201st", x.object(200, 2), -2);
        Check.fails(6, "let p=none;while 1{p=#new(p);}");
        Check.fails(6, "let p=new();while 1{#new(p);}");
    }

    @Sentence(promise = {5, 6}, says = {"A MEMBER read (2 at its . , if it is of no OBJECT): the OBJECT's own;",
        "else that of its PARENT, as it would be read of it; without any none."})
    static void memberReads() {
        for (String e : NO_OBJECTS) Check.fails(2, THINGS + "print " + e + "#.x;");
        Check.fails(2, "let o=new();print o.x#.y;");
        Check.papers("let a=new();a.x=1;a.y=2;let b=new(a);b.x=3;let c=new(b);print c.x;print c.y;print b.x;print a.x;",
            3, 2, 3, 1);
        ShapeEngine x = Check.papers("let a=new();let b=new(a);print a.x;print b.x;a.x=1;b.x=none;print b.x;", 0, 0, 0);
        Check.each("none", i -> x.paper(i, 0), 0, 0, 0);
        Check.papers("let a=new();a.x=7;let p=a;let i=0;while i<199{p=new(p);i=i+1;}print p.x;a.x=8;print p.x;"
            + "p.x=9;print p.x;del p.x;print p.x;", 7, 8, 9, 8);
    }

    @Sentence(promise = {5, 10}, says = "Put (2): the OBJECT's own becomes so, a new one comes behind its others.")
    static void memberPuts() {
        for (String e : NO_OBJECTS) {
            ShapeEngine failed = Check.fails(2, THINGS + e + "#.x=7;");
            Check.each("nothing is put", o -> failed.worth(o, 0), 1, 1);
        }
        ShapeEngine x = Check.ran("let a=new();a.p=1;a.q=2;a.r=3;a.q=none;a.p=4;");
        Check.due("members", x.object(0, 2), 3);
        Check.each("names", i -> x.letter(0, i, 0), 'p', 'q', 'r', 0);
        Check.each("worths", i -> x.worth(0, i), 4, 0, 3);
        ShapeEngine y = Check.ran("let a=new();a.p=1;let b=new(a);b.p=2;");
        Check.due("the parent's stays", y.worth(0, 0), 1);
        Check.due("the child has its own", y.worth(1, 0), 2);
        ShapeEngine z = Check.ran("let a=new();a.p=1;a.q=2;a.r=3;del a.p;a.p=4;");
        Check.each("struck and put again", i -> z.letter(0, i, 0), 'q', 'r', 'p', 0);
    }

    @Sentence(promise = {5, 9}, says = "del (2): its own is struck, if there is one.")
    static void memberStrikes() {
        for (String e : NO_OBJECTS) {
            ShapeEngine failed = Check.fails(2, THINGS + "del " + e + "#.x;");
            Check.each("nothing is struck", o -> failed.object(o, 2), 1, 1);
        }
        ShapeEngine x = Check.ran("let a=new();a.p=1;a.q=2;a.r=3;del a.q;del a.q;del a.z;");
        Check.each("names", i -> x.letter(0, i, 0), 'p', 'r', 0);
        ShapeEngine y = Check.ran("let a=new();a.p=1;let b=new(a);del b.p;print b.p;");
        Check.due("the parent's is not struck", y.printed(0), 1);
        Check.due("members of the parent", y.object(0, 2), 1);
        ShapeEngine z = Check.ran("let a=new();a.p=1;del a.p;print a.p;print size(a);");
        Check.due("the only one", z.paper(0, 0), 0);
        Check.due("no members", z.printed(1), 0);
        ShapeEngine first = Check.ran("let a=new();a.p=1;a.q=2;a.r=3;del a.p;");
        Check.each("the first", i -> first.letter(0, i, 0), 'q', 'r', 0);
        ShapeEngine last = Check.ran("let a=new();a.p=1;a.q=2;a.r=3;del a.r;a.s=4;");
        Check.each("the last", i -> last.letter(0, i, 0), 'p', 'q', 's', 0);
        ShapeEngine none = Check.ran("let a=new();a.p=none;del a.p;");
        Check.due("a none is a member too", none.object(0, 0), -1);
    }

    // ---- rows

    @Sentence(promise = {5, 13}, says = "row: a ROW of so many items 0 (at row 1: no NUMBER; 4: not 0 .. 50;")
    static void sizesOfRows() {
        for (int size : new int[] {0, 1, 49, 50}) {
            ShapeEngine x = Check.ran("let r=row(" + size + ");");
            Check.due("size", x.row(0, 1), size);
            for (int i = 0; i < size; i++) {
                Check.due("sort of item " + i, x.row(0, 2 + i), 1);
                Check.due("item " + i, x.item(0, i), 0);
            }
            Check.due("no more items", x.row(0, 2 + size), -1);
        }
        for (String e : new String[] {"none", "new()"}) Check.fails(1, "print #row(" + e + ");");
        Check.fails(1, "print #row(row(1));");
        // 2 to the 32nd and its like would be sizes that fit, if they were cut to an int.
        for (String e : new String[] {"-1", "51", "52", "536870911", P30, "-" + P32, P32, P32 + "+50", P32 + "*" + P30,
            P63, P63 + "-1"}) {
            Check.fails(4, "print #row(" + e + ");");
        }
    }

    @Sentence(promise = {5, 6}, says = "6: the 61st).")
    static void roomForRows() {
        ShapeEngine x = Check.ran("let i=0;while i<60{row(50);i=i+1;}");
        Check.due("the 60th", x.told(6), 60);
        Check.due("its last item", x.row(59, 51), 1);
        x = Check.fails(6, "let i=0;while i<61{#row(50);i=i+1;}");
        Check.due("rows", x.told(6), 60);
        Check.due("no 61st", x.row(60, 1), -2);
        Check.fails(6, "while 1{#row(0);}");
    }

    @Sentence(promise = {5, 14}, says = "An ITEM (at its [ , both parts being worked out, 2: of no ROW; 1: by no NUMBER; "
        + "3: none such) is read or put.")
    static void items() {
        Check.papers("let r=row(3);r[0]=5;r[2]=7;print r[0];print r[1];print r[2];", 5, 0, 7);
        Check.papers("let r=row(50);r[49]=5;print r[49];print r[48];r[25+24]=6;print r[49];", 5, 0, 6);
        for (String e : NO_ROWS) {
            Check.fails(2, THINGS + "print " + e + "#[0];");
            ShapeEngine failed = Check.fails(2, THINGS + e + "#[0]=300;");
            Check.each("nothing is put", i -> failed.item(i, 0), 0, 0);
            Check.each("nor widened", i -> failed.row(i, 0), 0, 0);
        }
        String row = "let r=row(3);let o=new();";
        for (String e : new String[] {"none", "o", "r"}) {
            Check.fails(1, row + "print r#[" + e + "];");
            Check.fails(1, row + "r#[" + e + "]=1;");
        }
        for (String e : new String[] {"-1", "3", "4", "50", "536870911", P30, P32, "-" + P32, P32 + "+1", P63, P63 + "-1"}) {
            Check.fails(3, row + "print r#[" + e + "];");
            Check.fails(3, row + "r#[" + e + "]=1;");
        }
        Check.fails(3, "let r=row(0);print r#[0];");
        Check.fails(3, "let r=row(50);print r#[50];");
    }

    @Sentence(promise = {5, 6}, says = "both parts being worked out,")
    static void bothPartsOfAnItemFirst() {
        Check.fails(1, "print none[1#+none];");
        Check.fails(2, "print none[none#.x];");
        ShapeEngine x = Check.fails(2, "fn f(n){print n;return none;}print f(1)#[f(2)];");
        Check.each("in their order", x::printed, 1, 2);
    }

    @Sentence(promise = {5, 6}, says = "size (2 at it): items of a ROW, own members of an OBJECT.")
    static void sizes() {
        Check.prints("size(row(0))", 0);
        Check.prints("size(row(50))", 50);
        Check.prints("size(new())", 0);
        Check.papers("let a=new();a.x=1;a.y=2;let b=new(a);print size(b);b.x=1;print size(b);print size(a);del a.x;"
            + "print size(a);", 0, 1, 2, 1);
        Check.papers("let a=new();a.a=1;a.b=1;a.c=1;a.d=1;a.e=1;a.f=1;a.g=1;a.h=1;print size(a);a.i=1;print size(a);", 8, 9);
        for (String e : new String[] {"none", "0", "1", "-1", P30, P32}) Check.fails(2, THINGS + "print #size(" + e + ");");
    }

    private static void has(String puts, int kind, int widened) {
        ShapeEngine x = Check.ran("let r=row(9);let o=new();" + puts);
        Check.due("kind behind " + puts, x.row(0, 0), kind);
        Check.due("widened by " + puts, x.told(14), widened);
    }

    @Sentence(promise = {6, 13}, says = {"A ROW has BYTES (0; -128 .. 127) at first;",
        "when something that does not fit is put it has WHOLES (1) or ANYTHING (2) from then on:"})
    static void bytesWholesAnything() {
        has("", 0, 0);
        has("r[0]=127;r[1]=-128;r[2]=0;r[8]=1;", 0, 0);
        has("r[0]=128;", 1, 1);
        has("r[0]=-129;", 1, 1);
        has("r[0]=256;", 1, 1);
        has("r[8]=536870911*2+1;", 1, 1);
        has("r[8]=-536870911*2-2;", 1, 1);
        has("r[0]=" + P30 + ";", 2, 1);
        has("r[0]=-536870911*2-3;", 2, 1);
        has("r[0]=" + P32 + ";", 2, 1);
        has("r[0]=" + P63 + ";", 2, 1);
        has("r[0]=none;", 2, 1);
        has("r[0]=o;", 2, 1);
        has("r[0]=r;", 2, 1);
    }

    @Sentence(promise = {6, 13}, says = "it WIDENS to the least of them that fits it and what is there, never back.")
    static void widensToTheLeastAndNeverBack() {
        has("r[0]=128;r[0]=1;", 1, 1);
        has("r[0]=128;r[1]=-129;r[2]=536870911;", 1, 1);
        has("r[0]=128;r[1]=none;", 2, 2);
        has("r[0]=128;r[1]=" + P30 + ";", 2, 2);
        has("r[0]=none;r[1]=128;", 2, 1);
        has("r[0]=none;r[0]=1;", 2, 1);
        has("r[0]=none;r[1]=" + P30 + ";r[2]=o;r[3]=128;", 2, 1);
        has("r[0]=r[1];r[1]=r[2];", 0, 0);
        ShapeEngine x = Check.ran("let r=row(2);let s=row(2);r[0]=5;r[1]=300;s[0]=none;r[0]=r[1];");
        Check.due("one row's widening is not another's", x.row(0, 0), 1);
        Check.due("the other", x.row(1, 0), 2);
        Check.due("both", x.told(14), 2);
        Check.each("what was there stays", i -> x.item(0, i), 300, 300);
    }

    @Sentence(promise = {13, 14}, says = "it WIDENS to the least of them that fits it and what is there, never back.")
    static void whatIsThereStays() {
        ShapeEngine x = Check.ran("let r=row(4);r[0]=127;r[1]=300;r[2]=" + P63 + ";r[3]=none;");
        Check.each("items", i -> x.item(0, i), 127, 300, Long.MIN_VALUE, 0);
        Check.each("sorts", i -> x.row(0, 2 + i), 1, 1, 2, 0);
        Check.due("widened", x.told(14), 2);
    }

    @Sentence(promise = {6, 13}, says = "when something that does not fit is put it has WHOLES (1) or ANYTHING (2) from then on:")
    static void aPutThatFailsWidensNothing() {
        ShapeEngine x = Check.fails(3, "let r=row(1);r#[1]=none;");
        Check.due("kind", x.row(0, 0), 0);
        Check.due("widened", x.told(14), 0);
        x = Check.fails(1, "let r=row(1);r#[none]=300;");
        Check.due("kind", x.row(0, 0), 0);
    }
}
