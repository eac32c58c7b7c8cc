/** Promises 5 to 8 and 13, 14: run, told, paper, printed, row and item; failures and steps. */
public final class RunTest {
    public static void main(String[] args) {
        endings();
        limits();
        numbers();
        sameness();
        numberFailures();
        objectFailures();
        rowFailures();
        order();
        calls();
        depth();
        room();
        paper();
        rows();
        widening();
        again();
        Check.end();
    }

    private static void endings() {
        ShapeEngine x = Check.ran("print 1;return 5;print 2;");
        Check.due("a return in the main ends it", x.told(7), 1);
        Check.due("no failure", x.told(0), 0);
        Check.due("no place", x.told(1), -1);
        Check.due("steps", x.told(2), 2);
        x = Check.ran("fn f(n){if n<3{return n;}else{print 0;}while 1{return 8;}}print f(1);print f(5);");
        Check.due("a return out of an if", x.printed(0), 1);
        Check.due("a return out of a while", x.printed(2), 8);
        // print call if return, print call if print while return
        Check.due("steps of it", x.told(2), 4 + 6);
    }

    private static void limits() {
        ShapeEngine x = Check.with("let i=0;while i<3{i=i+1;}print i;");
        int steps = 1 + 4 + 3 + 1;
        Check.due("limit 0", x.run(0), -2);
        Check.due("limit -1", x.run(-1), -2);
        Check.due("limit 20001", x.run(20001), -2);
        Check.due("limit of the greatest", x.run(Integer.MAX_VALUE), -2);
        Check.due("a refused run tells nothing", x.told(2), 0);
        Check.due("just enough", x.run(steps), 0);
        Check.due("steps", x.told(2), steps);
        Check.due("one less", x.run(steps - 1), 2);
        Check.due("steps when spent", x.told(2), steps - 1);
        Check.due("no failure when spent", x.told(0), 0);
        Check.due("no place when spent", x.told(1), -1);
        Check.due("nothing printed", x.told(7), 0);
        x.run(0);
        Check.due("a refused run changes nothing", x.told(2), steps - 1);
        Check.due("one step", x.run(1), 2);
        x = Check.with("while 1{}");
        Check.due("no end", x.run(20000), 2);
        Check.due("all steps", x.told(2), 20000);
        // A call's step is behind its E's: the f() inside is called, the one around is spent.
        x = Check.with("fn f(){print 7;}fn g(a){print a;}g(f());");
        Check.due("spent at the call", x.run(3), 2);
        Check.due("the inner call ran", x.told(7), 1);
        Check.due("the outer one is none", x.told(3), 1);
        Check.due("spent inside", x.run(4), 2);
        Check.due("the outer one is one", x.told(3), 2);
        Check.due("all of it", x.run(5), 0);
        x = Check.with("if 1{print 1;}else{print 2;}");
        Check.due("two steps of an if", x.run(2), 0);
        Check.due("one is not enough", x.run(1), 2);
        // The step of a failing call goes ahead of the failure.
        x = Check.with("fn f(){f();}f();");
        Check.due("spent ahead of too deep", x.run(25), 2);
        Check.due("too deep", x.run(26), 1);
        Check.due("its steps", x.told(2), 26);
        Check.due("its calls", x.told(3), 12);
    }

    private static void numbers() {
        Check.prints("1+2*3", 7);
        Check.prints("(1+2)*3", 9);
        Check.prints("10-3-2", 5);
        Check.prints("-3-2", -5);
        Check.prints("2--3", 5);
        Check.prints("--5", 5);
        Check.prints("536870911*2+1", 1073741823L);
        Check.prints("536870911*2+2", 1073741824L);
        Check.prints("-536870911*2-2", -1073741824L);
        Check.prints("-536870911*2-3", -1073741825L);
        Check.prints("-(-536870911*2-2)", 1073741824L);
        Check.prints("536870911*536870911*536870911", 536870911L * 536870911L * 536870911L);
        Check.prints("(536870911*8+8)*(536870911*8+8)", 0);
        Check.prints("(536870911*8+8)*(536870911*4+4)", Long.MIN_VALUE);
        Check.prints("-((536870911*8+8)*(536870911*4+4))", Long.MIN_VALUE);
        Check.prints("(536870911*8+8)*(536870911*4+4)-1", Long.MAX_VALUE);
        Check.prints("536870911*4-536870911*4", 0);
        Check.prints("1<2", 1);
        Check.prints("2<2", 0);
        Check.prints("3<2", 0);
        Check.prints("-1<0", 1);
        Check.prints("536870911<536870911*4", 1);
        Check.prints("1+1<1*3", 1);
    }

    private static void sameness() {
        Check.prints("1==1", 1);
        Check.prints("1==2", 0);
        Check.prints("none==none", 1);
        Check.prints("none==0", 0);
        Check.prints("536870911*4==536870911*2*2", 1);
        Check.prints("new()==new()", 0);
        Check.prints("row(0)==row(0)", 0);
        Check.prints("new()==row(1)", 0);
        Check.prints("new()==0", 0);
        ShapeEngine x = Check.ran("let a=new();let r=row(1);print a==a;print r==r;print a==r;print a==none;let b=a;print a==b;");
        int[] want = {1, 1, 0, 0, 1};
        for (int i = 0; i < want.length; i++) Check.due("sameness " + i, x.printed(i), want[i]);
    }

    private static void numberFailures() {
        Check.fails(1, "print none#+1;");
        Check.fails(1, "print 1#-none;");
        Check.fails(1, "print new()#*2;");
        Check.fails(1, "print 1+2#*row(1);");
        Check.fails(1, "print #-none;");
        Check.fails(1, "print -(#-new());");
        Check.fails(1, "print 1#<none;");
        Check.fails(1, "print none#<1;");
        Check.fails(1, "#if none{}");
        Check.fails(1, "#while new(){}");
        Check.fails(1, "let i=1;#while i{i=none;}");
        Check.fails(1, "fn f(){}print 1#+f();");
        ShapeEngine x = Check.ran("if -1{print 1;}if 0{print 2;}else{print 3;}if 536870911*8{print 4;}");
        Check.due("what is not 0 is true", x.told(7), 3);
        Check.due("else", x.printed(1), 3);
    }

    private static void objectFailures() {
        Check.fails(2, "print none#.x;");
        Check.fails(2, "print 1#.x;");
        Check.fails(2, "print row(1)#.x;");
        Check.fails(2, "let o=new();print o.x#.y;");
        Check.fails(2, "let o=1;o#.x=2;");
        Check.fails(2, "del none#.x;");
        Check.fails(2, "del row(1)#.x;");
        Check.fails(2, "print #new(1);");
        Check.fails(2, "print #new(row(1));");
        Check.fails(2, "print #size(none);");
        Check.fails(2, "print #size(1);");
        Check.fails(2, "let o=1;print -o#.x;");
        Check.fails(1, "let o=new();print #-o.x;");
        ShapeEngine x = Check.ran("let a=new(none);print size(a);a.x=1;a.y=2;print size(a);let b=new(a);print size(b);print b.y;print b.q;");
        Check.due("size of none", x.printed(0), 0);
        Check.due("own members", x.printed(1), 2);
        Check.due("a child's own", x.printed(2), 0);
        Check.due("the parent's member", x.printed(3), 2);
        Check.due("no member", x.paper(4, 0), 0);
        x = Check.ran("let a=new();a.x=1;let b=new(a);b.x=none;print b.x;del b.x;print b.x;del b.x;del a.x;print b.x;");
        Check.due("an own none hides the parent's", x.paper(0, 0), 0);
        Check.due("struck: the parent's again", x.printed(1), 1);
        Check.due("all struck", x.paper(2, 0), 0);
    }

    private static void rowFailures() {
        Check.fails(1, "print #row(none);");
        Check.fails(4, "print #row(-1);");
        Check.fails(4, "print #row(51);");
        Check.fails(4, "print #row(536870911*536870911);");
        Check.fails(4, "print #row(536870911*8+8);");
        Check.fails(2, "print none#[0];");
        Check.fails(2, "print new()#[0];");
        Check.fails(2, "print 1#[none];");
        Check.fails(1, "let r=row(2);print r#[none];");
        Check.fails(1, "let r=row(2);print r#[r];");
        Check.fails(3, "let r=row(2);print r#[2];");
        Check.fails(3, "let r=row(2);print r#[-1];");
        Check.fails(3, "let r=row(2);print r#[536870911*8+8];");
        Check.fails(3, "let r=row(0);print r#[0];");
        Check.fails(2, "let r=1;r#[none]=1;");
        Check.fails(1, "let r=row(2);r#[none]=1;");
        Check.fails(3, "let r=row(2);r#[2]=1;");
        Check.fails(2, "let r=row(2);r[0]#[0]=1;");
    }

    /** What is worked out first, and which of several failures is told. */
    private static void order() {
        Check.fails(1, "print none+(1#+none);");
        Check.fails(1, "print (none#+1)+(1+none);");
        Check.fails(1, "let o=none;o.x=1#+none;");
        Check.fails(1, "let r=none;r[9]=1#+none;");
        Check.fails(1, "let r=none;r[1#+none]=2+none;");
        Check.fails(1, "let r=none;r[0#-none]=2;");
        Check.fails(2, "let r=none;r#[none]=2;");
        Check.fails(2, "let o=none;print o#.x+(1+none);");
        Check.fails(1, "fn f(a,b){}f(1#+none,2+none);");
        ShapeEngine x = Check.ran("fn f(n){print n;return n;}let r=row(9);r[f(1)+f(2)]=f(3)*f(4);"
            + "print r[3];if f(5)<f(6){}");
        long[] want = {1, 2, 3, 4, 12, 5, 6};
        for (int i = 0; i < want.length; i++) Check.due("order " + i, x.printed(i), want[i]);
        // The object ahead of = is worked out first: the one that a was, not the one that it becomes.
        x = Check.ran("fn f(o){o.y=7;return 3;}let a=new();let b=a;a.x=f(a);print size(b);print b.x;print b.y;");
        Check.due("the put comes last", x.letter(0, 0, 0), 'y');
        Check.due("size", x.printed(0), 2);
        x = Check.ran("let r=row(1);let s=r;r[0]=5;print s[0];");
        Check.due("a row is shared", x.printed(0), 5);
    }

    private static void calls() {
        ShapeEngine x = Check.ran("fn f(a,b,c,d){print a;print b;print c;print d;let e=1;a=9;}"
            + "let a=1;print f(a,2,none,4);print a;");
        long[] want = {1, 2, 0, 4, 0, 1};
        for (int i = 0; i < want.length; i++) Check.due("call " + i, x.printed(i), want[i]);
        Check.due("no return: none", x.paper(4, 0), 0);
        x = Check.ran("fn f(n){if n{let v=5;}print v;}f(1);f(0);");
        Check.due("a let that ran", x.printed(0), 5);
        Check.due("a let that did not, in a call of its own", x.paper(1, 0), 0);
        x = Check.ran("if 0{let v=5;}print v;");
        Check.due("a let of the main that did not run", x.paper(0, 0), 0);
        x = Check.ran("fn f(n){if n<2{return n;}return f(n-1)+f(n-2);}print f(10);");
        Check.due("calls in one another", x.printed(0), 55);
        Check.due("calls", x.told(3), 177);
        Check.due("deepest", x.told(15), 10);
        x = Check.ran("fn f(a,b){return a-b;}print 100-f(10,f(4,1))*2;");
        Check.due("calls among what waits", x.printed(0), 86);
    }

    private static void depth() {
        ShapeEngine x = Check.ran("fn f(n){if n==1{return 1;}return f(n-1)+1;}print f(12);");
        Check.due("twelve in one another", x.printed(0), 12);
        Check.due("told(15)", x.told(15), 12);
        x = Check.fails(5, "fn f(n){if n==1{return 1;}return #f(n-1)+1;}print f(13);");
        Check.due("the thirteenth is none", x.told(3), 12);
        Check.due("nor counted", x.fn(0, 1), 12);
        Check.due("deepest", x.told(15), 12);
        x = Check.ran("fn f(a){return a;}print f(f(f(f(f(f(f(f(1))))))));print f(1);");
        Check.due("E's of a call are not in it", x.told(15), 1);
        Check.fails(1, "fn f(n){if n==1{return 1;}return f(n-1#+none)+1;}print f(13);");
    }

    private static void room() {
        ShapeEngine x = Check.fails(6, "let i=0;while i<201{#new();i=i+1;}");
        Check.due("objects", x.told(4), 200);
        Check.due("the last", x.object(199, 2), 0);
        Check.due("none behind it", x.object(200, 2), -2);
        Check.fails(2, "let i=0;while i<200{new();i=i+1;}#new(1);");
        x = Check.fails(6, "let i=0;while i<61{#row(50);i=i+1;}");
        Check.due("rows", x.told(6), 60);
        Check.due("the last row", x.row(59, 1), 50);
        Check.due("its last item", x.row(59, 51), 1);
        Check.due("none behind it", x.row(60, 1), -2);
        Check.fails(4, "let i=0;while i<60{row(0);i=i+1;}#row(51);");
    }

    private static void paper() {
        ShapeEngine x = Check.ran("let a=new();let b=new();print b;print row(0);let r=row(1);print r;print none;print 5;print 536870911*4;");
        int[] sorts = {3, 4, 4, 0, 1, 2};
        int[] numbers = {1, 0, 1, 0, 0, 0};
        long[] worths = {0, 0, 0, 0, 5, 2147483644L};
        for (int i = 0; i < sorts.length; i++) {
            Check.due("paper " + i + " 0", x.paper(i, 0), sorts[i]);
            Check.due("paper " + i + " 1", x.paper(i, 1), numbers[i]);
            Check.due("printed " + i, x.printed(i), worths[i]);
        }
        Check.due("paper behind the last", x.paper(6, 0), -1);
        Check.due("paper behind the last, 1", x.paper(6, 1), -1);
        Check.due("paper(-1)", x.paper(-1, 0), -1);
        Check.due("paper what 2", x.paper(0, 2), -2);
        Check.due("paper what -1", x.paper(0, -1), -2);
        Check.due("BAD goes ahead", x.paper(-1, 2), -2);
        Check.due("printed(-1)", x.printed(-1), 0);
        Check.due("printed(6)", x.printed(6), 0);
        Check.due("printed of the greatest", x.printed(Integer.MAX_VALUE), 0);
        x = Check.ran("let i=0;while i<300{i=i+1;print i;}");
        Check.due("all that it got", x.told(7), 300);
        Check.due("the last that is kept", x.printed(199), 200);
        Check.due("one more", x.printed(200), 0);
        Check.due("no such", x.paper(200, 0), -1);
        Check.due("told(16)", x.told(16), -2);
        Check.due("told(-1)", x.told(-1), -2);
    }

    private static void rows() {
        ShapeEngine x = Check.ran("let r=row(3);let o=new();r[1]=536870911*4;r[2]=o;let s=row(0);print r[0];print r[1];print r[2];print size(r);print size(s);");
        Check.due("items are 0", x.printed(0), 0);
        Check.due("a wide", x.printed(1), 2147483644L);
        Check.due("an object", x.paper(2, 0), 3);
        Check.due("size", x.printed(3), 3);
        Check.due("size 0", x.printed(4), 0);
        Check.due("row(0,1)", x.row(0, 1), 3);
        int[] sorts = {1, 2, 3, -1};
        for (int i = 0; i < 4; i++) Check.due("sort of item " + i, x.row(0, 2 + i), sorts[i]);
        Check.due("row of the greatest what", x.row(0, Integer.MAX_VALUE), -1);
        Check.due("what below 0", x.row(0, -1), -2);
        Check.due("no such row", x.row(2, 0), -2);
        Check.due("row -1", x.row(-1, 0), -2);
        Check.due("item", x.item(0, 1), 2147483644L);
        Check.due("item that is no number", x.item(0, 2), 0);
        Check.due("item 3", x.item(0, 3), 0);
        Check.due("item -1", x.item(0, -1), 0);
        Check.due("item of no row", x.item(5, 0), 0);
        Check.due("item of row -1", x.item(-1, 0), 0);
        Check.due("row of size 0", x.row(1, 2), -1);
        Check.due("item of a row of size 0", x.item(1, 0), 0);
    }

    private static void has(String puts, int kind, int times) {
        ShapeEngine x = Check.ran("let r=row(9);" + puts);
        Check.due("kind after " + puts, x.row(0, 0), kind);
        Check.due("widened after " + puts, x.told(14), times);
    }

    private static void widening() {
        has("", 0, 0);
        has("r[0]=127;r[1]=-128;", 0, 0);
        has("r[0]=128;", 1, 1);
        has("r[0]=-129;", 1, 1);
        has("r[0]=536870911*2+1;r[1]=-536870911*2-2;", 1, 1);
        has("r[0]=200;r[0]=1;", 1, 1);
        has("r[0]=536870911*2+2;", 2, 1);
        has("r[0]=-536870911*2-3;", 2, 1);
        has("r[0]=none;", 2, 1);
        has("r[0]=r;", 2, 1);
        has("r[0]=new();", 2, 1);
        has("r[0]=200;r[1]=none;r[2]=536870911*8;r[1]=0;r[2]=0;r[0]=0;", 2, 2);
        has("let s=row(1);s[0]=300;r[0]=300;s[0]=none;", 1, 3);
    }

    private static void again() {
        ShapeEngine x = Check.with("fn f(o){return o.x;}let a=new();a.x=1;del a.x;let r=row(2);r[0]=none;let i=0;while i<5{print f(a);i=i+1;}");
        int[] first = new int[16];
        Check.due("first run", x.run(1000), 0);
        for (int w = 0; w < 16; w++) first[w] = x.told(w);
        Check.due("short run", x.run(3), 2);
        Check.due("objects of it", x.told(4), 1);
        Check.due("rows of it", x.row(0, 0), -2);
        Check.due("fns of it", x.fn(0, 1), 0);
        Check.due("second run", x.run(1000), 0);
        for (int w = 0; w < 16; w++) Check.due("told again " + w, x.told(w), first[w]);
    }
}
