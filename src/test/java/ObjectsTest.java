/** Promises 9 to 12 and 15: object, member, worth, letter and shape. */
public final class ObjectsTest {
    public static void main(String[] args) {
        objects();
        members();
        order();
        shapes();
        shapesOfParents();
        dictionaryByNinth();
        dictionaryByStrike();
        manyMembers();
        Check.end();
    }

    private static void objects() {
        ShapeEngine x = Check.ran("let a=new();let b=new(a);let c=new(b);a.x=1;a.y=2;c.z=3;");
        int[] parents = {-1, 0, 1};
        int[] sizes = {2, 0, 1};
        // Shapes as they come: none{}, a{}, b{}, none{x}, none{x,y}, b{z}.
        int[] forms = {4, 1, 5};
        for (int o = 0; o < 3; o++) {
            Check.due("shape of " + o, x.object(o, 0), forms[o]);
            Check.due("parent of " + o, x.object(o, 1), parents[o]);
            Check.due("members of " + o, x.object(o, 2), sizes[o]);
        }
        Check.due("what 3", x.object(0, 3), -2);
        Check.due("what -1", x.object(0, -1), -2);
        Check.due("object 3", x.object(3, 0), -2);
        Check.due("object -1", x.object(-1, 0), -2);
        Check.due("told(4)", x.told(4), 3);
        Check.due("told(5)", x.told(5), 6);
    }

    private static void members() {
        ShapeEngine x = Check.ran("let a=new();let r=row(1);let s=row(1);let b=new();a.abcdefgh=1;a.b2=536870911*4;a.c=none;a.d=b;a.e=s;");
        int[] sorts = {1, 2, 0, 3, 4};
        int[] numbers = {0, 0, 0, 1, 1};
        long[] worths = {1, 2147483644L, 0, 0, 0};
        for (int i = 0; i < 5; i++) {
            Check.due("sort of member " + i, x.member(0, i, 0), sorts[i]);
            Check.due("number of member " + i, x.member(0, i, 1), numbers[i]);
            Check.due("worth of member " + i, x.worth(0, i), worths[i]);
        }
        Check.due("member 5", x.member(0, 5, 0), -1);
        Check.due("member -1", x.member(0, -1, 1), -1);
        Check.due("member what 2", x.member(0, 0, 2), -2);
        Check.due("member what -1", x.member(0, 0, -1), -2);
        Check.due("BAD goes ahead of NONE", x.member(0, 9, 2), -2);
        Check.due("member of no object", x.member(2, 0, 0), -2);
        Check.due("member of object -1", x.member(-1, 0, 0), -2);
        Check.due("worth of no object", x.worth(2, 0), 0);
        Check.due("worth of object -1", x.worth(-1, 0), 0);
        Check.due("worth of no member", x.worth(0, 5), 0);
        Check.due("worth of member -1", x.worth(0, -1), 0);
        String name = "abcdefgh";
        for (int k = 0; k < 8; k++) Check.due("letter " + k, x.letter(0, 0, k), name.charAt(k));
        Check.due("letter 8", x.letter(0, 0, 8), 0);
        Check.due("letter -1", x.letter(0, 0, -1), 0);
        Check.due("letter of the greatest k", x.letter(0, 0, Integer.MAX_VALUE), 0);
        Check.due("a digit", x.letter(0, 1, 1), '2');
        Check.due("behind a name", x.letter(0, 1, 2), 0);
        Check.due("letter of no member", x.letter(0, 5, 0), 0);
        Check.due("letter of member -1", x.letter(0, -1, 0), 0);
        Check.due("letter of no object", x.letter(2, 0, 0), 0);
    }

    private static void names(ShapeEngine x, int o, String want) {
        Check.due("members of " + o, x.object(o, 2), want.length());
        for (int i = 0; i < want.length(); i++) Check.due("name " + i + " of " + o, x.letter(o, i, 0), want.charAt(i));
    }

    private static void order() {
        ShapeEngine x = Check.ran("let a=new();a.p=1;a.q=2;a.r=3;a.p=4;");
        names(x, 0, "pqr");
        Check.due("put again in its place", x.worth(0, 0), 4);
        x = Check.ran("let a=new();a.p=1;a.q=2;a.r=3;del a.q;a.s=5;a.q=6;");
        names(x, 0, "prsq");
        x = Check.ran("let a=new();a.p=1;a.q=2;a.r=3;del a.r;a.s=5;");
        names(x, 0, "pqs");
        x = Check.ran("let a=new();a.p=1;del a.p;a.q=2;a.r=3;del a.q;");
        names(x, 0, "r");
        x = Check.ran("let a=new();let b=new();a.p=1;b.p=2;del a.p;b.q=3;a.q=4;a.p=5;");
        names(x, 0, "qp");
        names(x, 1, "pq");
        Check.due("of the other", x.worth(1, 1), 3);
    }

    private static void shapes() {
        ShapeEngine x = Check.ran("let a=new();a.x=1;a.y=2;let b=new();b.x=3;b.y=4;let c=new();c.y=1;c.x=2;let d=new();d.x=1;d.z=2;");
        Check.due("alike", x.object(1, 0), x.object(0, 0));
        // none{}, {x}, {x,y}, {y}, {y,x}, {x,z}
        int[] forms = {2, 2, 4, 5};
        for (int o = 0; o < 4; o++) Check.due("shape of " + o, x.object(o, 0), forms[o]);
        int[] lengths = {0, 1, 2, 1, 2, 2};
        int[] shorter = {-1, 0, 1, 0, 3, 1};
        int[] longer = {2, 2, 0, 1, 0, 0};
        for (int s = 0; s < 6; s++) {
            Check.due("parent of shape " + s, x.shape(s, 0), -1);
            Check.due("names of shape " + s, x.shape(s, 1), lengths[s]);
            Check.due("shorter of shape " + s, x.shape(s, 2), shorter[s]);
            Check.due("longer of shape " + s, x.shape(s, 3), longer[s]);
        }
        Check.due("shape 6", x.shape(6, 0), -2);
        Check.due("shape -1", x.shape(-1, 0), -2);
        Check.due("shape what 4", x.shape(0, 4), -2);
        Check.due("shape what -1", x.shape(0, -1), -2);
    }

    private static void shapesOfParents() {
        ShapeEngine x = Check.ran("let a=new();let b=new();let c=new(a);let d=new(b);let e=new(a);c.x=1;d.x=1;e.x=1;b.x=1;");
        int[] forms = {0, 5, 3, 4, 3};
        for (int o = 0; o < 5; o++) Check.due("shape of " + o, x.object(o, 0), forms[o]);
        int[] parents = {-1, 0, 1, 0, 1, -1};
        for (int s = 0; s < 6; s++) Check.due("parent of shape " + s, x.shape(s, 0), parents[s]);
    }

    private static void dictionaryByNinth() {
        String eight = "let a=new();a.a=1;a.b=1;a.c=1;a.d=1;a.e=1;a.f=1;a.g=1;a.h=1;";
        ShapeEngine x = Check.ran(eight);
        Check.due("eight have a shape", x.object(0, 0), 8);
        Check.due("its names", x.shape(8, 1), 8);
        Check.due("no dictionary", x.told(8), 0);
        x = Check.ran(eight + "a.h=2;");
        Check.due("no new member", x.object(0, 0), 8);
        x = Check.ran(eight + "a.i=1;a.j=1;");
        Check.due("nine have none", x.object(0, 0), -1);
        Check.due("members", x.object(0, 2), 10);
        Check.due("shapes", x.told(5), 9);
        Check.due("dictionaries", x.told(8), 1);
        x = Check.ran(eight + "a.i=1;del a.i;del a.h;");
        Check.due("never back", x.object(0, 0), -1);
        Check.due("counted once", x.told(8), 1);
    }

    private static void dictionaryByStrike() {
        ShapeEngine x = Check.ran("let a=new();a.x=1;del a.y;let b=new(a);del b.x;");
        Check.due("nothing struck", x.object(0, 0), 1);
        Check.due("the parent's is not struck", x.object(1, 0), 2);
        Check.due("nor gone", x.object(0, 2), 1);
        Check.due("no dictionary", x.told(8), 0);
        x = Check.ran("let a=new();a.x=1;del a.x;a.x=2;a.y=3;let b=new(a);");
        Check.due("struck", x.object(0, 0), -1);
        Check.due("shapes", x.told(5), 3);
        Check.due("a child of a dictionary has a shape", x.object(1, 0), 2);
        Check.due("dictionaries", x.told(8), 1);
    }

    private static void manyMembers() {
        StringBuilder text = new StringBuilder("fn f(o){");
        for (int i = 0; i < 79; i++) text.append("o.m").append(i).append("=").append(i).append(";");
        text.append("}while 1{f(new());}");
        ShapeEngine x = Check.with(text.toString());
        Check.due("no room in the end", x.run(20000), 1);
        Check.due("objects", x.told(4), 200);
        Check.due("dictionaries", x.told(8), 200);
        for (int o = 0; o < 200; o += 199) {
            Check.due("members", x.object(o, 2), 79);
            for (int i = 0; i < 79; i++) Check.due("worth", x.worth(o, i), i);
        }
        // A struck member's place is used again: the room for members is not used up.
        x = Check.with("let o=new();let p=new();p.z=8;while 1{o.x=1;o.y=2;del o.x;o.z=3;del o.y;del o.z;}");
        Check.due("spent", x.run(20000), 2);
        Check.due("the other's member", x.worth(1, 0), 8);
    }
}
