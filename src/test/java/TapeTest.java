/** Promises 1 to 4 and 18: a new object, feed, read, fault and count. */
public final class TapeTest {
    public static void main(String[] args) {
        newObject();
        feeding();
        fullTape();
        reading();
        faultyRead();
        emptyText();
        counting();
        Check.end();
    }

    private static void newObject() {
        ShapeEngine x = new ShapeEngine();
        Check.due("count(4) of a new one", x.count(4), 0);
        for (int what = 0; what < 4; what++) Check.due("count of a new one", x.count(what), 0);
        Check.due("fault(0) of a new one", x.fault(0), 0);
        Check.due("fault(1) of a new one", x.fault(1), ShapeEngine.NONE);
        for (int what = 0; what < 16; what++) Check.due("told of a new one", x.told(what), what == 1 ? -1 : 0);
        Check.due("run of a new one", x.run(1), ShapeEngine.STATE);
        Check.due("BAD goes ahead of STATE", x.run(0), ShapeEngine.BAD);
        Check.due("paper of a new one", x.paper(0, 0), ShapeEngine.NONE);
        Check.due("printed of a new one", x.printed(0), 0);
        Check.due("object of a new one", x.object(0, 0), ShapeEngine.BAD);
        Check.due("member of a new one", x.member(0, 0, 0), ShapeEngine.BAD);
        Check.due("worth of a new one", x.worth(0, 0), 0);
        Check.due("letter of a new one", x.letter(0, 0, 0), 0);
        Check.due("row of a new one", x.row(0, 0), ShapeEngine.BAD);
        Check.due("item of a new one", x.item(0, 0), 0);
        Check.due("shape of a new one", x.shape(0, 0), ShapeEngine.BAD);
        Check.due("site of a new one", x.site(0, 0), ShapeEngine.BAD);
        Check.due("fn of a new one", x.fn(0, 0), ShapeEngine.BAD);
    }

    private static void feeding() {
        ShapeEngine x = new ShapeEngine();
        Check.due("feed 0", x.feed(0, 1), ShapeEngine.BAD);
        Check.due("feed 9", x.feed(9, 1), ShapeEngine.BAD);
        Check.due("feed of a negative n", x.feed(Integer.MIN_VALUE, 1), ShapeEngine.BAD);
        Check.due("a refused feed changes nothing", x.count(4), 0);
        // "print 7;" by one, three and four bytes: the bytes above the n lowest are not taken.
        Check.due("feed p", x.feed(1, 0xFFFFFFFFFFFFFF00L | 'p'), 1);
        Check.due("feed rin", x.feed(3, 'r' | 'i' << 8 | 'n' << 16 | 0x41000000L), 4);
        Check.due("feed the rest", x.feed(4, 't' | ' ' << 8 | '7' << 16 | (long) ';' << 24), 8);
        Check.due("count(4)", x.count(4), 8);
        Check.due("read", x.read(), 0);
        Check.due("run", x.run(1), 0);
        Check.due("printed", x.printed(0), 7);
        Check.due("eight at once", x.feed(8, -1L), 8);
        Check.due("a byte 255 begins no token", x.read(), -11);
        Check.due("its place", x.fault(1), 0);
    }

    private static void fullTape() {
        ShapeEngine x = new ShapeEngine();
        for (int i = 1; i <= 187; i++) Check.due("feed", x.feed(8, 0x2020202020202020L), 8 * i);
        Check.due("FULL by one byte", x.feed(5, 0x2020202020L), ShapeEngine.FULL);
        Check.due("FULL changes nothing", x.count(4), 1496);
        Check.due("BAD goes ahead of FULL", x.feed(9, 0), ShapeEngine.BAD);
        Check.due("the last four", x.feed(4, 0x20202020L), 1500);
        Check.due("FULL", x.feed(1, 32), ShapeEngine.FULL);
        Check.due("a text of blanks", x.read(), 0);
        Check.due("its bytes", x.count(0), 1500);
        Check.due("the tape is empty then", x.count(4), 0);
    }

    private static void reading() {
        ShapeEngine x = Check.ran("let a=new();a.x=1;print a.x+1;");
        Check.due("told(4)", x.told(4), 1);
        Check.due("sites of the next text", Check.read(x, "let a=new();a.x=a.y*2;"), 3);
        Check.due("nothing has run: objects", x.told(4), 0);
        Check.due("nothing has run: steps", x.told(2), 0);
        Check.due("nothing has run: place", x.told(1), -1);
        Check.due("nothing has run: object(0)", x.object(0, 0), ShapeEngine.BAD);
        Check.due("nothing has run: paper", x.paper(0, 0), ShapeEngine.NONE);
        Check.due("nothing has run: a site", x.site(0, 2), 0);
        Check.due("nothing has run: shapes", x.shape(0, 0), ShapeEngine.BAD);
    }

    private static void faultyRead() {
        ShapeEngine x = Check.ran("fn f(a){return a;}let o=new();o.x=5;print f(o.x);");
        Check.due("read with a fault", Check.read(x, "print ;"), -11);
        Check.due("fault(0)", x.fault(0), 1);
        Check.due("fault(1)", x.fault(1), 6);
        Check.due("fault(2)", x.fault(2), ShapeEngine.BAD);
        Check.due("fault(-1)", x.fault(-1), ShapeEngine.BAD);
        Check.due("the tape is empty", x.count(4), 0);
        Check.due("the text stays", x.count(0), 49);
        Check.due("its fns stay", x.fn(0, 1), 1);
        Check.due("its sites stay", x.site(0, 0), 1);
        Check.due("what ran stays", x.printed(0), 5);
        Check.due("what it told stays", x.told(4), 1);
        Check.due("it runs again", x.run(100), 0);
        Check.due("as before", x.printed(0), 5);
        Check.due("run does not touch the fault", x.fault(0), 1);
        Check.due("a read without fault", Check.read(x, "print 1;"), 0);
        Check.due("fault(0) without one", x.fault(0), 0);
        Check.due("fault(1) without one", x.fault(1), -1);
        ShapeEngine none = new ShapeEngine();
        Check.due("a first read with a fault", Check.read(none, "print a;"), -12);
        Check.due("there is no text still", none.run(5), ShapeEngine.STATE);
        Check.due("nor any bytes of it", none.count(0), 0);
    }

    private static void emptyText() {
        ShapeEngine x = new ShapeEngine();
        Check.due("an empty tape is a text", x.read(), 0);
        Check.due("it runs", x.run(1), 0);
        Check.due("without steps", x.told(2), 0);
    }

    private static void counting() {
        String text = "fn f(){}fn g(a,b){let c=a+b;return c;}let v=1;let w=2;let v=g(v,w);v=v*2;";
        ShapeEngine x = Check.with(text);
        x.feed(3, 0x202020);
        Check.due("count(0)", x.count(0), text.length());
        Check.due("count(1)", x.count(1), 2);
        Check.due("count(2)", x.count(2), 2);
        Check.due("count(3)", x.count(3), 2);
        Check.due("count(4)", x.count(4), 3);
        Check.due("count(5)", x.count(5), ShapeEngine.BAD);
        Check.due("count(-1)", x.count(-1), ShapeEngine.BAD);
    }
}
