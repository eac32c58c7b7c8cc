/** The promises 7 to 14: what is told of the paper, of objects and of rows. */
final class AnswerSentences {
    private static final int NONE = ShapeEngine.NONE, BAD = ShapeEngine.BAD;
    private static final String WIDE = "536870911*4";
    private static final long WIDE_WORTH = 2147483644L;

    private AnswerSentences() {
    }

    // ---- promises 7 and 8

    private static ShapeEngine ofAllSorts() {
        return Check.ran("let a=new();let b=new();let r=row(0);let s=row(1);print none;print 5;print " + WIDE
            + ";print b;print s;print a;print r;print -1;");
    }

    @Sentence(promise = 7, says = "what 0 its sort: 0 none, 1 WHOLE, 2 WIDE, 3 OBJECT, 4 ROW;")
    static void sortsOnThePaper() {
        ShapeEngine x = ofAllSorts();
        Check.each("sort", i -> x.paper(i, 0), 0, 1, 2, 3, 4, 3, 4, 1, NONE);
    }

    @Sentence(promise = 7, says = "1 its number (OBJECT, ROW; of others 0).")
    static void numbersOnThePaper() {
        ShapeEngine x = ofAllSorts();
        Check.each("number", i -> x.paper(i, 1), 0, 0, 0, 1, 1, 0, 0, 0, NONE);
        ShapeEngine most = Check.ran("let i=0;let o=none;let r=none;while i<199{new();i=i+1;}o=new();i=0;while i<59{row(0);i=i+1;}"
            + "print o;print row(0);");
        Check.each("the greatest numbers", i -> most.paper(i, 1), 199, 59);
    }

    @Sentence(promise = {7, 6}, says = "The i-th that the PAPER got (the first 200 are kept):")
    static void firstTwoHundred() {
        for (int n : new int[] {0, 1, 199, 200, 201, 300}) {
            ShapeEngine x = Check.ran("let i=0;while i<" + n + "{print 1000+i;i=i+1;}");
            Check.due("what the paper got of " + n, x.told(7), n);
            int kept = Math.min(200, n);
            if (kept > 0) {
                Check.due("the first", x.printed(0), 1000);
                Check.due("the last kept", x.printed(kept - 1), 999 + kept);
                Check.due("its sort", x.paper(kept - 1, 0), 1);
            }
            Check.due("no such sort", x.paper(kept, 0), NONE);
            Check.due("no such number", x.paper(kept, 1), NONE);
            Check.due("no such worth", x.printed(kept), 0);
        }
        ShapeEngine all = Check.with("while 1{print 7;}");
        all.run(20000);
        Check.due("far above", all.told(7), 9999 + 1);
        Check.due("no such", all.paper(200, 0), NONE);
    }

    @Sentence(promise = 7, says = "NONE: no such.")
    static void nothingThereOnThePaper() {
        ShapeEngine x = Check.ran("print 1;");
        Check.same("paper", i -> x.paper(i, 0), NONE, 1, 2, 199, 200, 201);
        Check.same("paper", i -> x.paper(i, 1), NONE, 1, 2, 199, 200, 201);
        Check.same("paper", i -> x.paper(i, 0), NONE, Check.NEVER);
        ShapeEngine twice = Check.with("print 1;print 2;");
        twice.run(9);
        twice.run(1);
        Check.due("what an earlier run printed is gone", twice.paper(1, 0), NONE);
    }

    @Sentence(promise = 7, says = "BAD: what;")
    static void paperHasTwoNumbers() {
        ShapeEngine x = Check.ran("print 1;");
        Check.same("paper what", w -> x.paper(0, w), BAD, 2, 3);
        Check.same("paper what", w -> x.paper(0, w), BAD, Check.NEVER);
        Check.same("ahead of no such", w -> x.paper(1, w), BAD, 2, -1);
        Check.same("ahead of no such", w -> x.paper(-1, w), BAD, 2, -1);
        Check.same("of a new one", w -> new ShapeEngine().paper(0, w), BAD, 2, -1);
    }

    @Sentence(promise = 8, says = "The NUMBER that the PAPER got there; 0: no such.")
    static void numbersThatWerePrinted() {
        ShapeEngine x = ofAllSorts();
        Check.each("printed", x::printed, 0, 5, WIDE_WORTH, 0, 0, 0, 0, -1, 0);
        Check.same("no such", x::printed, 0, 8, 9, 199, 200, 201);
        Check.same("no such", x::printed, 0, Check.NEVER);
        ShapeEngine far = Check.papers("let m=(536870911*8+8)*(536870911*4+4);print m;print m-1;", Long.MIN_VALUE, Long.MAX_VALUE);
        far.run(1);
        Check.same("gone with the next run", far::printed, 0, 0, 1);
    }

    // ---- promises 9 to 12

    @Sentence(promise = 9, says = "Of an OBJECT: 0 its SHAPE (NONE: it is a DICTIONARY), 1 its PARENT (NONE), 2 how many members.")
    static void factsOfObjects() {
        ShapeEngine x = Check.ran("let a=new();a.x=1;a.y=1;let b=new(a);let c=new(b);c.x=1;del c.x;c.y=1;");
        // none{}, {x}, {x,y}, a{}, b{}, b{x}
        Check.each("shape", o -> x.object(o, 0), 2, 3, NONE);
        Check.each("parent", o -> x.object(o, 1), NONE, 0, 1);
        Check.each("members", o -> x.object(o, 2), 2, 0, 1);
    }

    @Sentence(promise = 9, says = "2 how many members.")
    static void theMostMembers() {
        StringBuilder puts = new StringBuilder();
        for (int n = 0; n < 80; n++) puts.append("o.n").append(n).append("=").append(n).append(";");
        ShapeEngine x = Check.with("fn f(o){" + puts + "}while 1{f(new());}");
        Check.due("no room in the end", x.run(20000), 1);
        Check.due("objects", x.told(4), 200);
        for (int o : new int[] {0, 1, 100, 199}) {
            Check.due("members of " + o, x.object(o, 2), 80);
            Check.due("the first of " + o, x.worth(o, 0), 0);
            Check.due("the ninth of " + o, x.worth(o, 8), 8);
            Check.due("the last of " + o, x.worth(o, 79), 79);
            Check.due("its name", x.letter(o, 79, 2), '9');
            Check.due("no more", x.member(o, 80, 0), NONE);
        }
    }

    @Sentence(promise = 9, says = "BAD.")
    static void noSuchObject() {
        ShapeEngine x = Check.ran("let a=new();let b=new();");
        Check.same("object", o -> x.object(o, 0), BAD, 2, 3, 199, 200, 201);
        Check.same("object", o -> x.object(o, 1), BAD, Check.NEVER);
        Check.same("object what", w -> x.object(0, w), BAD, 3, 4);
        Check.same("object what", w -> x.object(0, w), BAD, Check.NEVER);
        ShapeEngine none = Check.ran("print 1;");
        Check.same("no objects at all", o -> none.object(o, 2), BAD, 0, 1);
    }

    private static ShapeEngine membersOfAllSorts() {
        return Check.ran("let a=new();let b=new();let r=row(0);let s=row(1);a.abcdefgh=7;a.b2=" + WIDE
            + ";a.c=none;a.d=b;a.e=s;a.f=a;");
    }

    @Sentence(promise = 10, says = "Of an OBJECT's i-th MEMBER, in order: 0 the sort of its value (as paper()), 1 its number.")
    static void factsOfMembers() {
        ShapeEngine x = membersOfAllSorts();
        Check.each("sort", i -> x.member(0, i, 0), 1, 2, 0, 3, 4, 3, NONE);
        Check.each("number", i -> x.member(0, i, 1), 0, 0, 0, 1, 1, 0, NONE);
        ShapeEngine y = Check.ran("let a=new();a.p=1;a.q=none;a.r=a;del a.p;a.p=5;a.q=6;");
        Check.each("in order", i -> y.member(0, i, 0), 1, 3, 1, NONE);
        Check.each("in order", i -> y.letter(0, i, 0), 'q', 'r', 'p', 0);
    }

    @Sentence(promise = 10, says = "NONE: no such.")
    static void noSuchMember() {
        ShapeEngine x = membersOfAllSorts();
        Check.same("member", i -> x.member(0, i, 0), NONE, 6, 7, 80, 81);
        Check.same("member", i -> x.member(0, i, 1), NONE, Check.NEVER);
        Check.same("of one without members", i -> x.member(1, i, 0), NONE, 0, 1, -1);
    }

    @Sentence(promise = 10, says = "BAD.")
    static void membersOfNoObject() {
        ShapeEngine x = membersOfAllSorts();
        Check.same("member of", o -> x.member(o, 0, 0), BAD, 2, 3, 199, 200);
        Check.same("member of", o -> x.member(o, 0, 0), BAD, Check.NEVER);
        Check.same("member what", w -> x.member(0, 0, w), BAD, 2, 3);
        Check.same("member what", w -> x.member(0, 0, w), BAD, Check.NEVER);
        Check.same("ahead of no such member", w -> x.member(0, 9, w), BAD, 2, -1);
        Check.same("ahead of no such member", o -> x.member(o, -1, 0), BAD, 2, -1);
    }

    @Sentence(promise = 11, says = "Its value, if it is a NUMBER; else 0.")
    static void worths() {
        ShapeEngine x = membersOfAllSorts();
        Check.each("worth", i -> x.worth(0, i), 7, WIDE_WORTH, 0, 0, 0, 0, 0);
        Check.same("no such member", i -> x.worth(0, i), 0, 6, 7, 80, -1, Integer.MIN_VALUE, Integer.MAX_VALUE);
        Check.same("no such object", o -> x.worth(o, 0), 0, 1, 2, 199, 200, -1, Integer.MIN_VALUE, Integer.MAX_VALUE);
        ShapeEngine y = Check.ran("let a=new();a.x=(536870911*8+8)*(536870911*4+4);a.y=a.x-1;a.z=-1;");
        Check.each("far", i -> y.worth(0, i), Long.MIN_VALUE, Long.MAX_VALUE, -1);
    }

    @Sentence(promise = 12, says = "Byte k of the name of an OBJECT's i-th MEMBER;")
    static void letters() {
        ShapeEngine x = membersOfAllSorts();
        Check.each("letter", k -> x.letter(0, 0, k), 'a', 'b', 'c', 'd', 'e', 'f', 'g', 'h', 0);
        Check.each("letter", k -> x.letter(0, 1, k), 'b', '2', 0);
        Check.each("first letters", i -> x.letter(0, i, 0), 'a', 'b', 'c', 'd', 'e', 'f', 0);
        ShapeEngine y = Check.ran("new().zzzzzzzz=1;new().a9876543=1;");
        Check.each("letter", k -> y.letter(0, 0, k), 'z', 'z', 'z', 'z', 'z', 'z', 'z', 'z', 0);
        Check.each("letter", k -> y.letter(1, 0, k), 'a', '9', '8', '7', '6', '5', '4', '3', 0);
    }

    @Sentence(promise = 12, says = "0: no such.")
    static void noSuchLetter() {
        ShapeEngine x = membersOfAllSorts();
        Check.same("letter", k -> x.letter(0, 0, k), 0, 8, 9, 16, 64, -1, -8, -64, Integer.MIN_VALUE, Integer.MAX_VALUE);
        Check.same("of a short name", k -> x.letter(0, 2, k), 0, 1, 2, 7, 8, -1);
        Check.same("of no member", i -> x.letter(0, i, 0), 0, 6, 7, -1, Integer.MIN_VALUE, Integer.MAX_VALUE);
        Check.same("of no object", o -> x.letter(o, 0, 0), 0, 1, 2, 200, -1, Integer.MIN_VALUE, Integer.MAX_VALUE);
    }

    // ---- promises 13 and 14

    private static ShapeEngine rowsOfAllSorts() {
        return Check.ran("let r=row(6);let s=row(0);let t=row(50);let o=new();r[1]=" + WIDE + ";r[2]=none;r[3]=o;r[4]=s;r[5]=-9;"
            + "t[49]=200;");
    }

    @Sentence(promise = 13, says = "Of a ROW: 0 what it has (0 BYTES, 1 WHOLES, 2 ANYTHING), 1 its size;")
    static void factsOfRows() {
        ShapeEngine x = rowsOfAllSorts();
        Check.each("what it has", r -> x.row(r, 0), 2, 0, 1);
        Check.each("its size", r -> x.row(r, 1), 6, 0, 50);
    }

    @Sentence(promise = 13, says = "2 + i the sort of item i (NONE: no such).")
    static void sortsOfItems() {
        ShapeEngine x = rowsOfAllSorts();
        Check.each("sort", i -> x.row(0, 2 + i), 1, 2, 0, 3, 4, 1, NONE, NONE);
        Check.same("no such", w -> x.row(0, w), NONE, 8, 9, 51, 52, 53, Integer.MAX_VALUE);
        Check.same("of no items", w -> x.row(1, w), NONE, 2, 3, 51, 52, Integer.MAX_VALUE);
        Check.due("the last of the most", x.row(2, 51), 1);
        Check.same("no more", w -> x.row(2, w), NONE, 52, 53, Integer.MAX_VALUE - 1, Integer.MAX_VALUE);
    }

    @Sentence(promise = 13, says = "BAD: no such ROW, what below 0.")
    static void noSuchRow() {
        ShapeEngine x = rowsOfAllSorts();
        Check.same("row", r -> x.row(r, 0), BAD, 3, 4, 59, 60, 61);
        Check.same("row", r -> x.row(r, 1), BAD, Check.NEVER);
        Check.same("row", r -> x.row(r, 99), BAD, 3, -1);
        Check.same("row what", w -> x.row(0, w), BAD, -1, -2, Integer.MIN_VALUE);
        ShapeEngine none = Check.ran("print 1;");
        Check.same("no rows at all", r -> none.row(r, 0), BAD, 0, 1);
    }

    @Sentence(promise = 14, says = "Item i of a ROW, if it is a NUMBER; else 0.")
    static void itemsOfRows() {
        ShapeEngine x = rowsOfAllSorts();
        Check.each("item", i -> x.item(0, i), 0, WIDE_WORTH, 0, 0, 0, -9, 0);
        Check.due("the last of the most", x.item(2, 49), 200);
        Check.same("no such item", i -> x.item(0, i), 0, 6, 7, 50, 51, -1, Integer.MIN_VALUE, Integer.MAX_VALUE);
        Check.same("none of a row of none", i -> x.item(1, i), 0, 0, 1, -1);
        Check.same("no such row", r -> x.item(r, 0), 0, 3, 4, 60, -1, Integer.MIN_VALUE, Integer.MAX_VALUE);
        ShapeEngine y = Check.ran("let r=row(3);r[0]=(536870911*8+8)*(536870911*4+4);r[1]=r[0]-1;r[2]=-129;");
        Check.each("far", i -> y.item(0, i), Long.MIN_VALUE, Long.MAX_VALUE, -129);
    }

    @Sentence(promise = 14, says = "Item i of a ROW,")
    static void itemsOfOneRowAreNotAnothers() {
        ShapeEngine x = Check.ran("let r=row(1);let s=row(2);let t=row(1);r[0]=1;s[0]=2;s[1]=3;t[0]=4;");
        Check.each("first items", r -> x.item(r, 0), 1, 2, 4, 0);
        Check.each("second items", r -> x.item(r, 1), 0, 3, 0, 0);
        // Rows of a later run are made of 0 again.
        ShapeEngine y = Check.with("let r=row(2);print r[0];r[0]=none;r[1]=300;");
        for (int run = 0; run < 2; run++) {
            y.run(9);
            Check.due("sort of a new item", y.paper(0, 0), 1);
            Check.due("worth of a new item", y.printed(0), 0);
        }
        y.run(1);
        Check.each("new items", i -> y.row(0, i), 0, 2, 1, 1);
        Check.each("new items", i -> y.item(0, i), 0, 0);
    }
}
