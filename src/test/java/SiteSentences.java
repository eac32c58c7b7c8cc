/** Section 3 of the terms: what sites keep, ways and how they are broken; and promise 16. */
final class SiteSentences {
    private static final int NONE = ShapeEngine.NONE, BAD = ShapeEngine.BAD;
    /** Five objects of the shapes 1 to 5, none of which has the name x. */
    private static final String FIVE = "let a=new();a.a=1;let b=new();b.b=1;let c=new();c.c=1;let d=new();d.d=1;"
        + "let e=new();e.e=1;";
    private static final String READ = "fn f(o){return o.x;}", PUT = "fn p(o){o.x=1;}";
    /** b's parent is a, c's is b, d's is c; their shapes are 0 to 3. */
    private static final String LINE = READ + "let a=new();let b=new(a);let c=new(b);let d=new(c);";

    private SiteSentences() {
    }

    /** The entries of site 0, and whether it is many. */
    private static void keeps(ShapeEngine x, int many, int... shapes) {
        Check.due("entries", x.site(0, 4), shapes.length);
        Check.due("many", x.site(0, 5), many);
        for (int i = 0; i < shapes.length; i++) Check.due("entry " + i, x.site(0, 8 + i), shapes[i]);
        for (int i = shapes.length; i < 6; i++) Check.due("no entry " + i, x.site(0, 8 + i), NONE);
    }

    private static void reads(ShapeEngine x, int hits, int misses, int broken) {
        Check.due("hits", x.told(9), hits);
        Check.due("misses", x.told(10), misses);
        Check.due("broken", x.told(11), broken);
    }

    // ---- reads

    @Sentence(promise = 16, says = "A READ SITE KEEPS up to 4 ENTRIES, each a SHAPE.")
    static void upToFourEntries() {
        keeps(Check.ran(READ + FIVE), 0);
        keeps(Check.ran(READ + FIVE + "f(a);"), 0, 1);
        keeps(Check.ran(READ + FIVE + "f(b);f(a);"), 0, 2, 1);
        keeps(Check.ran(READ + FIVE + "f(a);f(b);f(c);"), 0, 1, 2, 3);
        keeps(Check.ran(READ + FIVE + "f(e);f(d);f(c);f(b);"), 0, 5, 4, 3, 2);
        keeps(Check.ran(READ + FIVE + "f(new());f(a);f(new());"), 0, 0, 1);
    }

    @Sentence(promise = {6, 16}, says = "As it runs on an OBJECT: if that is a DICTIONARY it is a MISS.")
    static void readsOfADictionary() {
        ShapeEngine x = Check.ran(READ + "let a=new();a.x=5;a.y=2;f(a);del a.y;print f(a);print f(a);");
        keeps(x, 0, 2);
        reads(x, 0, 3, 0);
        Check.due("ran", x.site(0, 2), 3);
        Check.due("hits", x.site(0, 3), 0);
        Check.due("its value all the same", x.printed(1), 5);
        ShapeEngine four = Check.ran(READ + FIVE + "f(a);f(b);f(c);f(d);del e.e;f(e);f(a);");
        keeps(four, 0, 1, 2, 3, 4);
        reads(four, 1, 5, 0);
        ShapeEngine none = Check.with(READ + "f(new());f(none);");
        none.run(99);
        Check.due("one that is of no object is no run", none.site(0, 2), 1);
        reads(none, 0, 1, 0);
    }

    @Sentence(promise = {6, 16}, says = "If it KEEPS its SHAPE, it is a HIT.")
    static void hits() {
        ShapeEngine x = Check.ran(READ + FIVE + "f(a);f(a);f(b);f(c);f(d);f(d);f(a);f(c);");
        keeps(x, 0, 1, 2, 3, 4);
        reads(x, 4, 4, 0);
        Check.due("hits of the site", x.site(0, 3), 4);
        Check.due("ran", x.site(0, 2), 8);
        ShapeEngine alike = Check.ran(READ + "let a=new();a.x=1;let b=new();b.x=2;print f(a);print f(b);");
        reads(alike, 1, 1, 0);
        Check.each("each its own", alike::printed, 1, 2);
        ShapeEngine two = Check.ran(READ + "fn g(o){return o.x;}let a=new();f(a);g(a);f(a);g(a);");
        Check.due("each site for itself", two.site(1, 3), 1);
        reads(two, 2, 2, 0);
    }

    @Sentence(promise = {6, 16}, says = "Else it is a MISS, and, unless the SITE is MANY, the SHAPE comes to its ENTRIES;")
    static void misses() {
        ShapeEngine x = Check.ran(READ + "let a=new();f(a);a.x=1;f(a);a.y=1;f(a);f(a);");
        keeps(x, 0, 0, 1, 2);
        reads(x, 1, 3, 0);
    }

    @Sentence(promise = {6, 16}, says = "if it had 4, it is MANY instead and has none any more.")
    static void many() {
        String four = READ + FIVE + "f(a);f(b);f(c);f(d);";
        keeps(Check.ran(four), 0, 1, 2, 3, 4);
        ShapeEngine fifth = Check.ran(four + "f(e);");
        keeps(fifth, 1);
        reads(fifth, 0, 5, 0);
        ShapeEngine more = Check.ran(four + "f(a);f(e);f(a);f(e);f(new());");
        keeps(more, 1);
        reads(more, 1, 8, 0);
        Check.due("ran", more.site(0, 2), 9);
        Check.due("hits", more.site(0, 3), 1);
    }

    // ---- ways

    @Sentence(promise = {6, 16}, says = "The WAY of an ENTRY, if the SHAPE does not have the name, are its PARENT, "
        + "the PARENT of that and so on, up to the first one that has a MEMBER of the name (with it; all, if none has) as it came;")
    static void waysUpToTheFirstThatHasTheName() {
        // The name is at b: the way of d is c and b.
        String atB = LINE + "b.x=1;f(d);";
        reads(Check.ran(atB + "c.y=1;"), 0, 1, 1);
        reads(Check.ran(atB + "b.y=1;"), 0, 1, 1);
        reads(Check.ran(atB + "a.y=1;a.x=1;a.x=2;del a.x;"), 0, 1, 0);
        reads(Check.ran(atB + "d.y=1;"), 0, 1, 0);
        // It is at c, the next one; it is at a, the last one.
        reads(Check.ran(LINE + "c.x=1;f(d);b.x=1;a.x=1;"), 0, 1, 0);
        reads(Check.ran(LINE + "c.x=1;f(d);c.y=1;"), 0, 1, 1);
        for (String o : new String[] {"a", "b", "c"}) {
            reads(Check.ran(LINE + "a.x=1;f(d);" + o + ".y=1;"), 0, 1, 1);
            reads(Check.ran(LINE + "f(d);" + o + ".y=1;"), 0, 1, 1);
        }
    }

    @Sentence(promise = {6, 16}, says = "The WAY of an ENTRY, if the SHAPE does not have the name,")
    static void noWay() {
        // A shape that has the name has no way, nor has one without a parent.
        ShapeEngine x = Check.ran(LINE + "d.x=1;f(d);c.x=2;b.x=3;a.x=4;del c.x;f(d);");
        reads(x, 1, 1, 0);
        x = Check.ran(LINE + "d.x=none;f(d);c.x=2;f(d);");
        reads(x, 1, 1, 0);
        x = Check.ran(LINE + "f(a);a.y=1;let e=new();f(e);e.x=1;f(new());");
        reads(x, 2, 1, 0);
    }

    @Sentence(promise = {6, 16}, says = "The WAY of an ENTRY,")
    static void theLongestWay() {
        String line = READ + "let a=new();let m=none;let p=a;let i=0;while i<199{p=new(p);if i==99{m=p;}i=i+1;}f(p);f(p);";
        ShapeEngine x = Check.ran(line);
        reads(x, 1, 1, 0);
        reads(Check.ran(line + "a.y=1;f(p);"), 1, 2, 1);
        reads(Check.ran(line + "m.y=1;f(p);"), 1, 2, 1);
        reads(Check.ran(line + "m.x=1;f(p);a.y=1;f(p);"), 2, 2, 1);
        reads(Check.ran(line + "p.y=1;"), 1, 1, 0);
    }

    @Sentence(promise = {6, 16}, says = "a WAY is BROKEN when a MEMBER is put to an OBJECT of it (a new one or not),")
    static void brokenByAPutToAnyOfIt() {
        // Each object's own member up is its parent; the way of the last one is all others.
        ShapeEngine x = Check.ran(READ + "let p=new();p.up=none;let q=p;let i=0;while i<199{p=new(q);p.up=q;q=p;i=i+1;}"
            + "q=p.up;while (q==none)==0{f(p);q.y=1;q=q.up;}");
        Check.due("once for each", x.told(11), 199);
        Check.due("runs of the site", x.site(0, 2), 199);
        Check.due("hits of the site", x.site(0, 3), 0);
        // Beside each of 60 on the line stands one that is not, though it has a child.
        x = Check.ran(READ + "let p=none;let q=none;let l=none;let i=0;while i<60{p=new(p);q=new(p);new(q);q.up=l;l=q;i=i+1;}"
            + "f(p);while (l==none)==0{l.y=1;l=l.up;}f(p);");
        Check.due("runs of the site", x.site(0, 2), 2);
        Check.due("hits of the site", x.site(0, 3), 1);
        Check.due("broken", x.told(11), 0);
    }

    @Sentence(promise = {6, 16}, says = "a WAY is BROKEN when a MEMBER is put to an OBJECT of it (a new one or not),")
    static void brokenByAPut() {
        String way = LINE + "a.x=1;a.y=1;f(d);";
        ShapeEngine x = Check.ran(way);
        keeps(x, 0, 3);
        reads(x, 0, 1, 0);
        for (String put : new String[] {"a.x=1;", "a.x=2;", "a.y=1;", "a.z=1;", "b.x=1;", "b.z=1;", "c.z=none;"}) {
            x = Check.ran(way + put);
            keeps(x, 0);
            reads(x, 0, 1, 1);
        }
        x = Check.ran(way + "a.x=5;print f(d);b.x=6;print f(d);c.x=7;print f(d);");
        Check.each("never an old value", x::printed, 5, 6, 7);
        reads(x, 0, 4, 3);
        x = Check.ran(way + "let e=new(c);e.x=1;d.y=1;let g=new();g.x=1;");
        reads(x, 0, 1, 0);
        x = Check.fails(1, way + "a.x=1#+none;");
        reads(x, 0, 1, 0);
    }

    @Sentence(promise = {6, 16}, says = "or one of its is struck:")
    static void brokenByAStrike() {
        String way = LINE + "a.x=1;a.y=1;b.y=1;f(d);";
        for (String strike : new String[] {"del a.x;", "del a.y;", "del b.y;"}) {
            ShapeEngine x = Check.ran(way + strike);
            keeps(x, 0);
            reads(x, 0, 1, 1);
        }
        for (String strike : new String[] {"del a.z;", "del b.x;", "del c.y;", "del d.x;", "del new().x;"}) {
            ShapeEngine x = Check.ran(way + strike);
            keeps(x, 0, 3);
            reads(x, 0, 1, 0);
        }
        ShapeEngine x = Check.ran(way + "del a.x;print f(d);");
        Check.due("never an old value", x.paper(0, 0), 0);
        // A way goes over dictionaries too.
        x = Check.ran(LINE + "b.y=1;del b.y;a.x=1;f(d);f(d);b.y=1;");
        reads(x, 1, 1, 1);
    }

    @Sentence(promise = {6, 16}, says = "the ENTRY goes at once (MANY stays).")
    static void theEntryGoesAtOnce() {
        // Entries: none{}, then those of b, d and c; a put to c breaks d's alone, one to b d's and c's.
        String all = LINE + "f(a);f(b);f(d);f(c);";
        keeps(Check.ran(all), 0, 0, 1, 3, 2);
        ShapeEngine x = Check.ran(all + "c.y=1;");
        keeps(x, 0, 0, 1, 2);
        reads(x, 0, 4, 1);
        x = Check.ran(all + "b.y=1;");
        keeps(x, 0, 0, 1);
        reads(x, 0, 4, 2);
        x = Check.ran(all + "a.y=1;");
        keeps(x, 0, 0);
        reads(x, 0, 4, 3);
        x = Check.ran(all + "c.y=1;f(d);f(d);");
        keeps(x, 0, 0, 1, 2, 3);
        reads(x, 1, 5, 1);
        // Three are left of four: one more comes, and is no fifth.
        x = Check.ran(all + "c.y=1;let z=new();z.z=1;f(z);");
        Check.due("not many", x.site(0, 5), 0);
        Check.due("entries", x.site(0, 4), 4);
    }

    @Sentence(promise = {6, 16}, says = "the ENTRY goes at once (MANY stays).")
    static void entriesThatStayKeepTheirWays() {
        // The way of b is a; that of d is c alone, which has the name; q is behind it.
        String both = READ + "let a=new();let b=new(a);let q=new();let c=new(q);c.x=1;let d=new(c);";
        ShapeEngine x = Check.ran(both + "f(b);f(d);a.y=1;q.y=1;f(d);");
        reads(x, 1, 2, 1);
        x = Check.ran(both + "f(b);f(d);a.y=1;c.y=1;");
        reads(x, 0, 2, 2);
        x = Check.ran(both + "f(d);f(b);c.y=1;q.y=1;f(b);");
        reads(x, 1, 2, 1);
        x = Check.ran(both + "f(d);f(b);c.y=1;a.y=1;");
        reads(x, 0, 2, 2);
    }

    @Sentence(promise = {6, 16}, says = "the ENTRY goes at once (MANY stays).")
    static void entriesOfTheLastOfTheMostSitesGo() {
        ShapeEngine x = Check.ran("fn f(o){" + "o.x;".repeat(78) + "}let a=new();let b=new(a);a.y=1;f(b);a.y=2;");
        Check.due("sites", x.count(2), 80);
        Check.same("entries", s -> x.site(s, 4), 0, 0, 1, 76, 77);
        reads(x, 0, 78, 78);
    }

    @Sentence(promise = {6, 16}, says = "(MANY stays).")
    static void manyStays() {
        ShapeEngine x = Check.ran(LINE + "let z=new();z.z=1;f(a);f(b);f(c);f(d);f(z);a.x=1;b.x=1;c.x=1;f(d);f(a);");
        keeps(x, 1);
        reads(x, 0, 7, 0);
    }

    @Sentence(promise = {6, 16}, says = "the ENTRY goes at once (MANY stays).")
    static void entriesOfAllSitesGo() {
        ShapeEngine x = Check.ran("fn f(o){return o.x;}fn g(o){return o.y;}let a=new();a.y=1;let b=new(a);f(b);g(b);a.z=1;");
        Check.due("entries of f's", x.site(0, 4), 0);
        Check.due("entries of g's", x.site(1, 4), 0);
        reads(x, 0, 2, 2);
    }

    // ---- puts, strikes and sums

    @Sentence(promise = 16, says = "A PUT SITE KEEPS SHAPES likewise: those that the OBJECTS had ahead of the put")
    static void putsKeepShapes() {
        ShapeEngine x = Check.ran(PUT + "let a=new();p(a);p(a);p(a);p(new());");
        keeps(x, 0, 0, 1);
        Check.due("ran", x.site(0, 2), 4);
        Check.due("hits", x.site(0, 3), 2);
        reads(x, 0, 0, 0);
        keeps(Check.ran(PUT + FIVE + "p(a);p(b);p(c);p(d);"), 0, 1, 2, 3, 4);
        x = Check.ran(PUT + FIVE + "p(a);p(b);p(c);p(d);p(e);p(e);p(new());");
        keeps(x, 1);
        Check.due("hits of one that is many", x.site(0, 3), 0);
        // A dictionary is a miss and no entry; what becomes one by the put had a shape ahead of it.
        x = Check.ran(PUT + "let a=new();a.y=1;del a.y;p(a);p(a);");
        keeps(x, 0);
        Check.due("ran", x.site(0, 2), 2);
        x = Check.ran(PUT + "let a=new();a.a=1;a.b=1;a.c=1;a.d=1;a.e=1;a.f=1;a.g=1;a.h=1;p(a);p(a);");
        keeps(x, 0, 8);
        Check.due("hits", x.site(0, 3), 0);
        // The E behind = changes the shape: the one ahead of the put is the new one.
        x = Check.ran("fn p(o){o.x=g(o);}fn g(o){o.y=1;return 1;}let a=new();p(a);");
        keeps(x, 0, 1);
    }

    @Sentence(promise = {6, 16}, says = "(they are never broken).")
    static void putsAreNeverBroken() {
        ShapeEngine x = Check.ran(PUT + "let a=new();let b=new(a);p(b);a.x=2;a.y=3;del a.x;p(new(a));");
        keeps(x, 0, 1);
        Check.due("hits", x.site(0, 3), 1);
        reads(x, 0, 0, 0);
    }

    @Sentence(promise = 16, says = "A STRIKE keeps none.")
    static void strikesKeepNone() {
        ShapeEngine x = Check.ran("fn s(o){del o.x;}let a=new();a.x=1;s(a);s(a);s(new());s(new());");
        keeps(x, 0);
        Check.due("ran", x.site(0, 2), 4);
        Check.due("hits", x.site(0, 3), 0);
        reads(x, 0, 0, 0);
    }

    @Sentence(promise = 16, says = "A SUM KEEPS whether it gave WHOLES, and whether it gave WIDES.")
    static void sumsKeepWhatTheyGave() {
        String sum = "fn f(a,b){return a+b;}let w=536870911*2;";
        Check.due("nothing", Check.ran(sum).site(0, 4), 0);
        Check.due("the greatest whole", Check.ran(sum + "f(w,1);").site(0, 4), 1);
        Check.due("the least wide", Check.ran(sum + "f(w,2);").site(0, 4), 2);
        Check.due("both", Check.ran(sum + "f(w,1);f(w,2);").site(0, 4), 3);
        Check.due("both again", Check.ran(sum + "f(w,2);f(w,1);f(1,1);").site(0, 4), 3);
        Check.due("the least whole", Check.ran(sum + "f(-w,-2);").site(0, 4), 1);
        Check.due("the greatest wide below", Check.ran(sum + "f(-w,-3);").site(0, 4), 2);
        ShapeEngine x = Check.with(sum + "f(1,none);");
        x.run(99);
        Check.due("a failure gives nothing", x.site(0, 4), 0);
    }

    // ---- promise 16

    @Sentence(promise = 16, says = "Of a SITE: 0 its KIND, 1 its PLACE,")
    static void kindAndPlace() {
        String text = "none.x;none.y=1;del none.z;" + "1+2;".repeat(77);
        ShapeEngine x = Check.with(text);
        Check.each("kind", s -> x.site(s, 0), 0, 1, 2, 3);
        Check.each("place", s -> x.site(s, 1), text.indexOf(".x"), text.indexOf(".y"), text.indexOf(".z"), text.indexOf("+"));
        Check.due("kind of the 80th", x.site(79, 0), 3);
        Check.due("place of the 80th", x.site(79, 1), text.length() - 3);
    }

    @Sentence(promise = 16, says = "2 how often it ran on an OBJECT (a SUM: gave a NUMBER), 3 HITS,")
    static void runsAndHits() {
        ShapeEngine x = Check.ran("fn f(o){o.x;o.x=1;del o.y;1+1;}let a=new();" + "f(a);".repeat(5));
        Check.each("ran", s -> x.site(s, 2), 5, 5, 5, 5);
        Check.each("hits", s -> x.site(s, 3), 3, 3, 0, 0);
        for (String e : new String[] {"o.x", "o.x=1", "del o.x", "o+1"}) {
            ShapeEngine none = Check.with("fn f(o){" + e + ";}f(none);");
            Check.due("it fails", none.run(9), 1);
            Check.due("no run of " + e, none.site(0, 2), 0);
        }
    }

    @Sentence(promise = 16, says = {"4 how many ENTRIES it has (a SUM: 1 WHOLES, 2 WIDES, 3 both),",
        "5 whether it is MANY,"})
    static void entriesAndMany() {
        ShapeEngine x = Check.ran("fn f(o){o.x;o.y=1;del o.z;1+1;}" + FIVE + "f(a);f(b);f(c);");
        Check.each("entries", s -> x.site(s, 4), 3, 3, 0, 1);
        Check.each("many", s -> x.site(s, 5), 0, 0, 0, 0);
        ShapeEngine y = Check.ran("fn f(o){o.x;o.y=1;del o.z;1+1;}" + FIVE + "f(a);f(b);f(c);f(d);f(e);");
        Check.each("entries", s -> y.site(s, 4), 0, 0, 0, 1);
        Check.each("many", s -> y.site(s, 5), 1, 1, 0, 0);
    }

    @Sentence(promise = 16, says = "6 the FN in which it stands (NONE: THE MAIN),")
    static void fnOfASite() {
        StringBuilder text = new StringBuilder();
        for (int f = 0; f < 8; f++) text.append("fn f").append(f).append("(){1+1;}");
        ShapeEngine x = Check.with(text + "1+1;if 1{2+2;}");
        Check.each("fn", s -> x.site(s, 6), 0, 1, 2, 3, 4, 5, 6, 7, NONE, NONE);
    }

    @Sentence(promise = 16, says = "7 whether there is a GUESS of it now;")
    static void guessNow() {
        String text = "fn f(o){o.x;o.y=1;del o.z;1+1;}let a=new();a.y=1;";
        ShapeEngine x = Check.ran(text + "f(a);".repeat(3));
        Check.each("ahead of the making", s -> x.site(s, 7), 0, 0, 0, 0);
        ShapeEngine y = Check.ran(text + "f(a);".repeat(4));
        Check.each("made", s -> y.site(s, 7), 1, 0, 0, 1);
        ShapeEngine z = Check.ran(text + "f(a);".repeat(4) + "f(new());");
        Check.each("left", s -> z.site(s, 7), 0, 0, 0, 0);
        z.run(1);
        Check.each("run anew", s -> z.site(s, 7), 0, 0, 0, 0);
    }

    @Sentence(promise = 16, says = "8 + i the SHAPE of its i-th ENTRY, in the order in which they came (NONE: no such).")
    static void entriesInTheirOrder() {
        ShapeEngine x = Check.ran("fn f(o){o.x;1+1;del o.z;}" + FIVE + "f(d);f(b);f(d);f(e);f(a);");
        Check.each("entries", i -> x.site(0, 8 + i), 4, 2, 5, 1, NONE, NONE);
        Check.same("no such", w -> x.site(0, w), NONE, 12, 13, 100, Integer.MAX_VALUE);
        Check.same("of a sum", w -> x.site(1, w), NONE, 8, 9, 12, Integer.MAX_VALUE);
        Check.same("of a strike", w -> x.site(2, w), NONE, 8, 9, 12, Integer.MAX_VALUE);
    }

    @Sentence(promise = 16, says = "BAD: no such SITE, what below 0.")
    static void noSuchSite() {
        ShapeEngine x = Check.ran("1+1;2+2;");
        Check.same("site", s -> x.site(s, 0), BAD, 2, 3, 79, 80, 81);
        Check.same("site", s -> x.site(s, 0), BAD, Check.NEVER);
        Check.same("what below 0", w -> x.site(0, w), BAD, -1, -2, -8, Integer.MIN_VALUE);
        Check.same("no such site and entry", s -> x.site(s, 100), BAD, 2, -1);
        ShapeEngine none = Check.ran("print 1;");
        Check.same("no sites at all", s -> none.site(s, 0), BAD, 0, 1);
        ShapeEngine most = Check.ran("print 0" + "+1".repeat(80) + ";");
        Check.due("the last of the most", most.site(79, 2), 1);
        Check.due("no more", most.site(80, 2), BAD);
    }

    @Sentence(promise = {16, 6}, says = "(PUT SITES have HITS likewise; they are none of told().)")
    static void hitsOfPutSites() {
        ShapeEngine x = Check.ran(PUT + "let a=new();" + "p(a);".repeat(4));
        Check.due("hits", x.site(0, 3), 2);
        reads(x, 0, 0, 0);
    }
}
