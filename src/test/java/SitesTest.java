/** Promise 16: site, and what sites keep; promise 6 for hits, misses and broken entries. */
public final class SitesTest {
    public static void main(String[] args) {
        facts();
        readHits();
        readMany();
        dictionaries();
        puts();
        strikes();
        sums();
        waysBrokenByPut();
        waysBrokenByStrike();
        waysThatStay();
        brokenOrder();
        manyStays();
        Check.end();
    }

    private static void entries(ShapeEngine x, int s, int... want) {
        Check.due("entries of site " + s, x.site(s, 4), want.length);
        for (int i = 0; i < want.length; i++) Check.due("entry " + i + " of site " + s, x.site(s, 8 + i), want[i]);
        Check.due("no entry behind them", x.site(s, 8 + want.length), -1);
    }

    private static void told(ShapeEngine x, int hits, int misses, int broken) {
        Check.due("hits", x.told(9), hits);
        Check.due("misses", x.told(10), misses);
        Check.due("broken", x.told(11), broken);
    }

    private static void facts() {
        String text = "fn f(o){return o.x;}fn g(o){o.y=1+2;}let o=new();del o.z;f(o);";
        ShapeEngine x = Check.ran(text);
        int[] kinds = {0, 1, 3, 2};
        int[] fns = {0, 1, 1, -1};
        int[] places = {text.indexOf(".x"), text.indexOf(".y"), text.indexOf("+"), text.indexOf(".z")};
        int[] ran = {1, 0, 0, 1};
        for (int s = 0; s < 4; s++) {
            Check.due("kind of " + s, x.site(s, 0), kinds[s]);
            Check.due("place of " + s, x.site(s, 1), places[s]);
            Check.due("runs of " + s, x.site(s, 2), ran[s]);
            Check.due("fn of " + s, x.site(s, 6), fns[s]);
        }
        Check.due("site 4", x.site(4, 0), -2);
        Check.due("site -1", x.site(-1, 0), -2);
        Check.due("what -1", x.site(0, -1), -2);
        Check.due("entry of the greatest what", x.site(0, Integer.MAX_VALUE), -1);
        Check.due("entry of a sum", x.site(2, 8), -1);
    }

    private static void readHits() {
        // none{}, {x}, {x,y}: the read meets {x}, {x,y}, {x}, then an object without the name.
        ShapeEngine x = Check.ran("fn f(o){return o.x;}let a=new();a.x=1;let b=new();b.x=2;b.y=3;let c=new();"
            + "print f(a);print f(b);print f(a);print f(c);print f(b);");
        entries(x, 0, 1, 2, 0);
        Check.due("ran", x.site(0, 2), 5);
        Check.due("hits", x.site(0, 3), 2);
        Check.due("many", x.site(0, 5), 0);
        told(x, 2, 3, 0);
        Check.due("a failing read is no run", failing().site(0, 2), 1);
    }

    private static ShapeEngine failing() {
        ShapeEngine x = Check.with("fn f(o){return o.x;}f(new());f(1);");
        Check.due("it fails", x.run(99), 1);
        told(x, 0, 1, 0);
        return x;
    }

    private static String objectsOfFiveShapes() {
        return "let a=new();a.a=1;let b=new();b.b=1;let c=new();c.c=1;let d=new();d.d=1;let e=new();e.e=1;";
    }

    private static void readMany() {
        String all = "fn f(o){return o.x;}" + objectsOfFiveShapes();
        ShapeEngine x = Check.ran(all + "f(a);f(b);f(c);f(d);f(d);");
        entries(x, 0, 1, 2, 3, 4);
        Check.due("not many", x.site(0, 5), 0);
        x = Check.ran(all + "f(a);f(b);f(c);f(d);f(a);f(e);f(a);f(e);");
        entries(x, 0);
        Check.due("many", x.site(0, 5), 1);
        Check.due("ran", x.site(0, 2), 8);
        Check.due("hits", x.site(0, 3), 1);
        told(x, 1, 7, 0);
    }

    private static void dictionaries() {
        ShapeEngine x = Check.ran("fn f(o){return o.x;}let a=new();a.x=1;a.y=2;del a.y;print f(a);print f(a);");
        entries(x, 0);
        Check.due("ran", x.site(0, 2), 2);
        Check.due("not many", x.site(0, 5), 0);
        told(x, 0, 2, 0);
        Check.due("its value all the same", x.printed(1), 1);
        // A put on a dictionary is a miss that keeps nothing; the put that makes one keeps the shape ahead.
        x = Check.ran("fn p(o){o.x=1;}let a=new();a.y=2;del a.y;p(a);p(a);");
        entries(x, 0);
        Check.due("put hits", x.site(0, 3), 0);
        Check.due("put runs", x.site(0, 2), 2);
    }

    private static void puts() {
        // Ahead of the puts: none{} , none{x} , none{x}.
        ShapeEngine x = Check.ran("fn p(o){o.x=1;}let a=new();p(a);p(a);p(a);p(new());");
        entries(x, 0, 0, 1);
        Check.due("runs", x.site(0, 2), 4);
        Check.due("hits", x.site(0, 3), 2);
        told(x, 0, 0, 0);
        x = Check.ran("fn p(o){o.x=1;}" + objectsOfFiveShapes() + "p(a);p(b);p(c);p(d);");
        entries(x, 0, 1, 2, 3, 4);
        x = Check.ran("fn p(o){o.x=1;}" + objectsOfFiveShapes() + "p(a);p(b);p(c);p(d);p(e);p(e);");
        entries(x, 0);
        Check.due("many", x.site(0, 5), 1);
        // Never broken: a put to the parent leaves what a put site keeps of the child's shape.
        x = Check.ran("fn p(o){o.x=1;}let a=new();let b=new(a);p(b);a.x=2;a.y=3;");
        entries(x, 0, 1);
        told(x, 0, 0, 0);
    }

    private static void strikes() {
        ShapeEngine x = Check.ran("fn s(o){del o.x;}let a=new();a.x=1;s(a);s(a);s(new());");
        Check.due("runs", x.site(0, 2), 3);
        Check.due("hits", x.site(0, 3), 0);
        entries(x, 0);
        Check.due("many", x.site(0, 5), 0);
    }

    private static void sums() {
        ShapeEngine x = Check.ran("print 1+1;print 536870911*4;let i=0;while i<2{print 0-i*536870911*4;i=i+1;}");
        int[] gave = {1, 2, 3, 1, 3, 1};
        for (int s = 0; s < gave.length; s++) {
            Check.due("gave " + s, x.site(s, 4), gave[s]);
            Check.due("hits " + s, x.site(s, 3), 0);
            Check.due("many " + s, x.site(s, 5), 0);
        }
        Check.due("runs", x.site(2, 2), 2);
        x = Check.with("print none+1;");
        x.run(9);
        Check.due("no number", x.site(0, 2), 0);
        Check.due("nothing given", x.site(0, 4), 0);
    }

    /** b's parent is a, c's is b; a read of c.x goes the way b, a. */
    private static final String LINE = "fn f(o){return o.x;}let a=new();let b=new(a);let c=new(b);";

    private static void waysBrokenByPut() {
        // Shapes: none{} 0, a{} 1, b{} 2, then none{x} 3.
        ShapeEngine x = Check.ran(LINE + "a.x=1;print f(c);a.x=2;print f(c);");
        told(x, 0, 2, 1);
        entries(x, 0, 2);
        Check.due("before", x.printed(0), 1);
        Check.due("behind", x.printed(1), 2);
        x = Check.ran(LINE + "a.x=1;f(c);b.x=2;print f(c);");
        told(x, 0, 2, 1);
        Check.due("the nearer one", x.printed(0), 2);
        x = Check.ran(LINE + "a.x=1;f(c);b.other=2;");
        told(x, 0, 1, 1);
        entries(x, 0);
        x = Check.ran(LINE + "f(c);a.other=2;");
        told(x, 0, 1, 1);
        x = Check.ran(LINE + "f(c);f(b);f(a);a.x=2;f(a);f(b);f(c);");
        told(x, 0, 6, 2);
        entries(x, 0, 0, 3, 1, 2);
    }

    private static void waysBrokenByStrike() {
        ShapeEngine x = Check.ran(LINE + "a.x=1;a.y=1;f(c);del a.y;");
        told(x, 0, 1, 1);
        entries(x, 0);
        x = Check.ran(LINE + "a.x=1;f(c);del a.x;print f(c);");
        told(x, 0, 2, 1);
        entries(x, 0, 2);
        Check.due("none is left", x.paper(0, 0), 0);
        x = Check.ran(LINE + "a.x=1;f(c);del a.nothing;del b.x;");
        told(x, 0, 1, 0);
        entries(x, 0, 2);
    }

    private static void waysThatStay() {
        // Behind the first one that has the name nothing matters.
        ShapeEngine x = Check.ran(LINE + "b.x=1;f(c);a.x=2;a.y=3;f(c);");
        told(x, 1, 1, 0);
        // A shape with the name has no way.
        x = Check.ran(LINE + "c.x=1;f(c);b.x=2;a.x=3;f(c);");
        told(x, 1, 1, 0);
        // A put to the object itself, or to one beside it, is none to its way.
        x = Check.ran(LINE + "let d=new(b);f(c);d.x=1;d.y=2;c.y=1;f(new(b));");
        told(x, 1, 1, 0);
        // Without a parent there is no way.
        x = Check.ran(LINE + "let e=new();f(e);a.x=1;e.x=2;f(new());");
        told(x, 1, 1, 0);
        // A way goes over a dictionary too.
        x = Check.ran(LINE + "b.q=1;del b.q;a.x=1;f(c);f(c);b.q=2;");
        told(x, 1, 1, 1);
    }

    private static void brokenOrder() {
        // Entries: none{} , a{} , none{z}, b{} ; a put to b breaks the last, one to a the second.
        String all = LINE + "let z=new();z.z=1;f(new());f(b);f(z);f(c);";
        ShapeEngine x = Check.ran(all);
        entries(x, 0, 0, 1, 3, 2);
        x = Check.ran(all + "b.q=1;");
        entries(x, 0, 0, 1, 3);
        told(x, 0, 4, 1);
        x = Check.ran(all + "a.q=1;");
        entries(x, 0, 0, 3);
        told(x, 0, 4, 2);
        x = Check.ran(all + "a.q=1;f(b);f(b);");
        told(x, 1, 5, 2);
        entries(x, 0, 0, 3, 1);
    }

    private static void manyStays() {
        ShapeEngine x = Check.ran(LINE + "let p=new();p.p=1;let q=new();q.q=1;f(p);f(q);f(a);f(b);f(c);a.x=1;b.x=1;f(p);");
        Check.due("many", x.site(0, 5), 1);
        entries(x, 0);
        told(x, 0, 6, 0);
    }
}
