/** Section 3 of the terms: shapes and dictionaries; and promise 15. */
final class ShapeSentences {
    private static final int NONE = ShapeEngine.NONE, BAD = ShapeEngine.BAD;
    private static final String EIGHT = "a.a=1;a.b=1;a.c=1;a.d=1;a.e=1;a.f=1;a.g=1;a.h=1;";

    private ShapeSentences() {
    }

    private static void shapes(ShapeEngine x, int what, long... want) {
        Check.due("shapes", x.told(5), want.length);
        Check.each("shape(.., " + what + ")", s -> x.shape(s, what), want);
    }

    private static void forms(ShapeEngine x, long... want) {
        Check.each("shape of object", o -> x.object(o, 0), want);
    }

    @Sentence(promise = {9, 15}, says = "SHAPES, numbered as they come: a SHAPE is a PARENT (or none) and a row of names.")
    static void numberedAsTheyCome() {
        ShapeEngine x = Check.ran("let a=new();let b=new(a);a.x=1;b.x=1;let c=new(b);a.y=1;c.z=1;b.y=1;");
        // none{}, a{}, none{x}, a{x}, b{}, none{x,y}, b{z}, a{x,y}
        shapes(x, 0, NONE, 0, NONE, 0, 1, NONE, 1, 0);
        shapes(x, 1, 0, 0, 1, 1, 0, 2, 1, 2);
        forms(x, 5, 7, 6);
        shapes(Check.ran("print 1;"), 0);
    }

    @Sentence(promise = {9, 15}, says = "An OBJECT that is made has the SHAPE of its PARENT without names, "
        + "which comes if it was not there;")
    static void shapeOfANewObject() {
        ShapeEngine x = Check.ran("let a=new();let b=new();let c=new(none);let d=new(a);let e=new(a);let f=new(b);let g=new(d);");
        forms(x, 0, 0, 0, 1, 1, 2, 3);
        shapes(x, 0, NONE, 0, 1, 3);
        ShapeEngine y = Check.ran("let a=new();a.x=1;let b=new();let c=new(a);a.y=1;let d=new(a);del a.x;let e=new(a);");
        forms(y, NONE, 0, 2, 2, 2);
        ShapeEngine z = Check.with("let i=0;while i<201{new();i=i+1;}");
        z.run(20000);
        Check.due("an object that has no room brings no shape", z.told(5), 1);
    }

    @Sentence(promise = {6, 15}, says = "An OBJECT that is made has the SHAPE of its PARENT without names, "
        + "which comes if it was not there;")
    static void theMostShapesThereCanBe() {
        ShapeEngine x = Check.ran("let a=none;let i=0;while i<200{a=new(a);" + EIGHT + "i=i+1;}");
        Check.due("200 objects with 9 shapes each", x.told(5), 1800);
        Check.due("parent of the last", x.shape(1799, 0), 198);
        Check.due("names of the last", x.shape(1799, 1), 8);
        Check.due("ahead of the last", x.shape(1799, 2), 1798);
        Check.due("behind the last", x.shape(1799, 3), 0);
        Check.due("no more", x.shape(1800, 0), BAD);
        Check.due("shape of the last object", x.object(199, 0), 1799);
        Check.due("no parent of the first", x.shape(8, 0), NONE);
        Check.due("without names", x.shape(1791, 1), 0);
        Check.due("nothing ahead of it", x.shape(1791, 2), NONE);
    }

    @Sentence(promise = {9, 15}, says = "when a new MEMBER comes the SHAPE with that name more "
        + "(that of the same PARENT with the same names in this order), which comes if it was not there.")
    static void shapeWithANameMore() {
        ShapeEngine alike = Check.ran("let a=new();a.x=1;a.y=2;let b=new();b.x=none;b.y=a;");
        forms(alike, 2, 2);
        shapes(alike, 1, 0, 1, 2);
        ShapeEngine order = Check.ran("let a=new();a.x=1;a.y=2;let b=new();b.y=1;b.x=2;");
        forms(order, 2, 4);
        shapes(order, 2, NONE, 0, 1, 0, 3);
        ShapeEngine parent = Check.ran("let a=new();let b=new(a);let c=new();let d=new(c);b.x=1;d.x=1;a.x=1;");
        forms(parent, 5, 3, 0, 4);
        shapes(parent, 0, NONE, 0, 2, 0, 2, NONE);
        ShapeEngine names = Check.ran("let a=new();a.x=1;let b=new();b.xx=1;let c=new();c.x0=1;let d=new();d.abcdefgh=1;"
            + "let e=new();e.abcdefgi=1;let f=new();f.x=1;");
        forms(names, 1, 2, 3, 4, 5, 1);
        ShapeEngine put = Check.ran("let a=new();a.x=1;a.x=2;a.x=none;");
        forms(put, 1);
        shapes(put, 1, 0, 1);
    }

    @Sentence(promise = {9, 15}, says = "With a 9th member,")
    static void dictionaryWithANinthMember() {
        ShapeEngine eight = Check.ran("let a=new();" + EIGHT + "a.h=2;a.a=3;");
        forms(eight, 8);
        Check.due("no dictionary", eight.told(8), 0);
        ShapeEngine nine = Check.ran("let a=new();" + EIGHT + "a.i=1;");
        forms(nine, NONE);
        shapes(nine, 1, 0, 1, 2, 3, 4, 5, 6, 7, 8);
        Check.due("members", nine.object(0, 2), 9);
        Check.due("dictionaries", nine.told(8), 1);
        ShapeEngine more = Check.ran("let a=new();" + EIGHT + "a.i=1;a.j=1;a.k=1;a.a=2;");
        forms(more, NONE);
        shapes(more, 3, 1, 1, 1, 1, 1, 1, 1, 1, 0);
        Check.due("dictionaries", more.told(8), 1);
    }

    @Sentence(promise = {9, 15}, says = "or when one of its members is struck, an OBJECT becomes a DICTIONARY:")
    static void dictionaryByAStrike() {
        ShapeEngine x = Check.ran("let a=new();a.x=1;del a.x;let b=new();b.x=1;b.y=1;del b.x;let c=new();c.x=1;c.y=1;del c.y;"
            + "let d=new();d.x=1;del d.y;let e=new(d);del e.x;del e.z;let f=new();del f.x;");
        forms(x, NONE, NONE, NONE, 1, 3, 0);
        Check.due("dictionaries", x.told(8), 3);
        Check.each("parents", o -> x.object(o, 1), NONE, NONE, NONE, NONE, 3, NONE);
    }

    @Sentence(promise = {9, 6}, says = "it has no SHAPE any more.")
    static void noShapeAnyMore() {
        ShapeEngine x = Check.ran("let a=new();a.x=1;del a.x;a.x=1;a.y=2;del a.y;let b=new();b.x=1;");
        forms(x, NONE, 1);
        shapes(x, 1, 0, 1);
        Check.due("it is one dictionary", x.told(8), 1);
        ShapeEngine y = Check.ran("let a=new();" + EIGHT + "a.i=1;del a.i;del a.h;del a.a;");
        forms(y, NONE);
        Check.due("six members", y.object(0, 2), 6);
        Check.due("it is one dictionary", y.told(8), 1);
        ShapeEngine child = Check.ran("let a=new();a.x=1;del a.x;let b=new(a);b.x=1;");
        forms(child, NONE, 3);
        Check.due("a dictionary is a shape's parent", child.shape(3, 0), 0);
    }

    // ---- promise 15

    @Sentence(promise = 15, says = "Of a SHAPE: 0 its PARENT (NONE), 1 how many names, 2 the SHAPE with one name less (NONE), "
        + "3 how many SHAPES with one name more.")
    static void factsOfShapes() {
        ShapeEngine x = Check.ran("let a=new();a.x=1;a.y=1;let b=new();b.x=1;b.z=1;let c=new();c.y=1;let d=new(a);d.x=1;");
        // none{}, {x}, {x,y}, {x,z}, {y}, a{}, a{x}
        shapes(x, 0, NONE, NONE, NONE, NONE, NONE, 0, 0);
        shapes(x, 1, 0, 1, 2, 2, 1, 0, 1);
        shapes(x, 2, NONE, 0, 1, 1, 0, NONE, 5);
        shapes(x, 3, 2, 2, 0, 0, 0, 1, 0);
    }

    @Sentence(promise = 15, says = "3 how many SHAPES with one name more.")
    static void manyShapesWithOneNameMore() {
        StringBuilder text = new StringBuilder();
        for (int n = 0; n < 80; n++) text.append("new().n").append(n).append("=1;");
        ShapeEngine x = Check.ran(text.toString());
        Check.due("shapes", x.told(5), 81);
        Check.due("of one without names", x.shape(0, 3), 80);
        Check.due("of the last", x.shape(80, 3), 0);
        Check.due("ahead of the last", x.shape(80, 2), 0);
        ShapeEngine twice = Check.ran("fn f(){" + text + "}f();f();");
        Check.due("the same ones again", twice.told(5), 81);
        Check.due("of one without names", twice.shape(0, 3), 80);
    }

    @Sentence(promise = 15, says = "BAD.")
    static void noSuchShape() {
        ShapeEngine x = Check.ran("let a=new();a.x=1;");
        Check.same("shape", s -> x.shape(s, 0), BAD, 2, 3, 1799, 1800, 1801);
        Check.same("shape", s -> x.shape(s, 0), BAD, Check.NEVER);
        Check.same("shape what", w -> x.shape(0, w), BAD, 4, 5);
        Check.same("shape what", w -> x.shape(0, w), BAD, Check.NEVER);
        ShapeEngine none = Check.ran("print 1;");
        Check.same("no shapes at all", s -> none.shape(s, 0), BAD, 0, 1);
    }
}
