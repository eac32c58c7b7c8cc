/** Section 1 of the terms: the faults, with their kinds and places; a # marks the place. */
final class FaultSentences {
    private static final String EIGHT_BLOCKS = "if 1{".repeat(8), SEVEN_BLOCKS = "if 1{".repeat(7);

    private FaultSentences() {
    }

    private static String lets(int n) {
        StringBuilder all = new StringBuilder();
        for (int v = 0; v < n; v++) all.append("let v").append(v).append("=1;");
        return all.toString();
    }

    private static String fns(int n) {
        StringBuilder all = new StringBuilder();
        for (int f = 0; f < n; f++) all.append("fn f").append(f).append("(){}");
        return all.toString();
    }

    @Sentence(promise = 4, says = "FAULTS have a kind and a place.")
    static void kindsAndPlaces() {
        Check.fault(1, "#@");
        Check.fault(1, "print#");
        Check.fault(2, "print #a;");
        Check.fault(3, "fn f(a,#a){}");
        Check.fault(2, " ".repeat(1490) + "print #a;");
    }

    @Sentence(promise = 4, says = "1: the first byte of the first TOKEN that can't stand there")
    static void firstTokenThatCannotStand() {
        Check.fault(1, "print 1 #print 2 print 3;");
        Check.fault(1, "print 1 #while;");
        Check.fault(1, "print 1 #536870911;");
        Check.fault(1, "let a = 1 == 2 #== 3;");
        Check.fault(1, "let a=1; a #none;");
        Check.fault(1, "print \n #;;;");
        // A kind 1 goes ahead of all others, also of those with lesser places.
        Check.fault(1, "fn f(a,a){}fn f(){}print b;f(1,2);c=1;print #;");
    }

    @Sentence(promise = 4, says = "(the text's size, if it ends too early),")
    static void textsThatEndTooEarly() {
        String text = "fn f(a){return a;}if 1{f(2)+new(none).x;}else{let b=row(3);b[1]=-(4);del b.y;}";
        int[] whole = {0, text.indexOf("if"), text.indexOf("else"), text.length()};
        for (int size = 0; size <= text.length(); size++) {
            boolean isWhole = false;
            for (int w : whole) isWhole |= w == size;
            if (isWhole) Check.due("read of " + size, Check.read(new ShapeEngine(), text.substring(0, size)) >= 0 ? 1 : 0, 1);
            else Check.fault(1, text.substring(0, size) + "#");
        }
        Check.fault(1, "print 1 \n  #");
        Check.fault(1, "if 1{\n#");
        Check.fault(1, "print 1" + " ".repeat(1493) + "#");
    }

    @Sentence(promise = 4, says = "also a byte that begins none, a WORD or NUMBER that is too long or too great,")
    static void tokensThatAreNone() {
        Check.fault(1, "print #@;");
        Check.fault(1, "print #\u0000;");
        Check.fault(1, "print #\u00ff;");
        Check.fault(1, "print 1#@;");
        Check.fault(1, "print #; @");
        Check.fault(1, "print #@ ;;");
        Check.fault(1, "print #abcdefghi;");
        Check.fault(1, "#abcdefghi");
        Check.fault(1, "print 1;#printprin 1;");
        Check.fault(1, "print #536870912;");
        Check.fault(1, "print #0000000000;");
        Check.fault(1, "print 1 #0000000000;");
        Check.fault(1, "print #) abcdefghi 536870912 @;");
    }

    @Sentence(promise = 4, says = "a 9th fn,")
    static void ninthFn() {
        Check.fine(fns(7), 0);
        Check.fine(fns(8), 0);
        Check.fault(1, fns(8) + "#fn f8(){}");
        Check.fault(1, fns(8) + "#fn");
        Check.fault(1, fns(8) + "#fn f8(){}fn f9(){}@");
        Check.fault(1, fns(8) + "#fn f0(){}");
    }

    @Sentence(promise = 4, says = "a 5th NAME or E,")
    static void fifthNameOrE() {
        Check.fine("fn f(a,b,c,d){}f(1,2,3,4);", 0);
        Check.fault(1, "fn f(a,b,c,d,#e){}");
        Check.fault(1, "fn f(a,b,c,d, #e,e,e){}");
        Check.fault(1, "fn f(a,b,c,d){}f(1,2,3,4,#5);");
        Check.fault(1, "fn f(a,b,c,d){}f(1,2,3,4, #none,6,7);");
        Check.fault(1, "fn f(a,b,c,d){}f(1,2,3,4,#(5));");
        Check.fault(1, "fn f(a,b,c,d){}f(1,2,3,f(1,2,3,4,#-5),6);");
        Check.fault(1, "print nofn(1,2,3,4,#5);");
    }

    @Sentence(promise = 4, says = "the = or ; behind an E that is not as it has to be "
        + "(( E ) is no VARIABLE, MEMBER or ITEM),")
    static void putsAndStrikesOfNoPlace() {
        Check.fault(1, "let a=1;(a) #= 2;");
        Check.fault(1, "let a=1;(a.x) #= 2;");
        Check.fault(1, "let a=1;(a[0]) #= 2;");
        Check.fault(1, "let a=1;((a)) #= 2;");
        Check.fault(1, "let a=1;del (a.x) #;");
        Check.fault(1, "let a=1;del a #;");
        Check.fault(1, "let a=1;del a[0] #;");
        Check.fault(1, "let a=1;a+1 #= @");
        Check.fine("let a=1;(a).x=2;(a)[0]=2;del (a).x;", 2);
    }

    @Sentence(promise = 4, says = "a ( , [ or { , or a - ahead of a ONE, while 8 of these are open")
    static void eightOpen() {
        Check.fine("print " + "(".repeat(8) + "1" + ")".repeat(8) + ";", 0);
        Check.fault(1, "print " + "(".repeat(8) + "#(1" + ")".repeat(9) + ";");
        Check.fault(1, "print " + "(".repeat(8) + "#(((((");
        Check.fine("let r=1;print " + "r[".repeat(8) + "1" + "]".repeat(8) + ";", 0);
        Check.fault(1, "let r=1;print " + "r[".repeat(8) + "r#[1" + "]".repeat(9) + ";");
        Check.fine(EIGHT_BLOCKS + "}".repeat(8), 0);
        Check.fault(1, EIGHT_BLOCKS + "if 1#{" + "}".repeat(9));
        Check.fine("print " + "-".repeat(8) + "1;", 0);
        Check.fault(1, "print " + "-".repeat(8) + "#-1;");
        Check.fault(1, "print " + "-".repeat(8) + "#" + "-".repeat(800) + "1;");
    }

    @Sentence(promise = 4, says = "a ( , [ or { , or a - ahead of a ONE, while 8 of these are open")
    static void eightOpenOfAnyKind() {
        String close = "}".repeat(8);
        String fn = "fn f(){}fn g(a){}let r=1;";
        String[] ones = {"#(1)", "r#[0]", "#-1", "new#()", "new#(r)", "row#(1)", "size#(r)", "f#()", "g#(1)"};
        for (String one : ones) {
            Check.fault(1, fn + EIGHT_BLOCKS + "print " + one + ";" + close);
            Check.fine(fn + SEVEN_BLOCKS + "print " + one.replace("#", "") + ";" + close.substring(1), 0);
            Check.fault(1, fn + "print " + "(".repeat(8) + one + ")".repeat(8) + ";");
            Check.fine(fn + "print " + "(".repeat(7) + one.replace("#", "") + ")".repeat(7) + ";", 0);
            Check.fault(1, fn + "print " + "r[".repeat(8) + one + "]".repeat(8) + ";");
            Check.fine(fn + "print " + "r[".repeat(7) + one.replace("#", "") + "]".repeat(7) + ";", 0);
            Check.fault(1, fn + "print " + "-(".repeat(4) + one + ")".repeat(4) + ";");
            Check.fault(1, fn + "if 1{while 1{print g(-new(row(size(r[" + one + "]))));}}");
        }
        Check.fine("fn f(){" + SEVEN_BLOCKS + "}".repeat(8), 0);
        Check.fault(1, "fn f(){" + SEVEN_BLOCKS + "if 1#{" + "}".repeat(9));
        Check.fault(1, EIGHT_BLOCKS + "while 1#{");
        Check.fault(1, SEVEN_BLOCKS + "if 1{}else{if 1#{");
    }

    @Sentence(promise = 4, says = "a ( , [ or { , or a - ahead of a ONE, while 8 of these are open")
    static void whatIsClosedIsNotOpen() {
        Check.fine("print " + "((1))+".repeat(20) + "((((((((1))))))));", 20);
        Check.fine("if 1{}".repeat(20) + EIGHT_BLOCKS + "}".repeat(8) + "if 1{}", 0);
        Check.fine("let r=1;print r" + "[0]".repeat(20) + ";", 0);
        Check.fine("fn f(){}" + "f();".repeat(20) + EIGHT_BLOCKS + "}".repeat(8), 0);
        Check.fine(fns(8) + EIGHT_BLOCKS + "}".repeat(8), 0);
        // A - between two is none of these.
        Check.fine(EIGHT_BLOCKS + "print 1-1-1;" + "}".repeat(8), 2);
        Check.fine("print " + "(".repeat(8) + "1-1" + ")".repeat(8) + ";", 1);
    }

    @Sentence(promise = 4, says = "(a - till its ONE ends).")
    static void minusTillItsOneEnds() {
        Check.fine("print " + "-1+".repeat(20) + "1;", 20);
        Check.fine("print " + "-".repeat(8) + "1-" + "-".repeat(8) + "1;", 1);
        Check.fine("let r=1;print " + "-".repeat(8) + "r[0];", 0);
        Check.fine("let r=1;print " + "-".repeat(8) + "r" + "[-0]".repeat(9) + ";", 0);
        Check.fault(1, "print " + "-".repeat(8) + "#(1);");
        Check.fine("print " + "-".repeat(7) + "(1);", 0);
        Check.fault(1, "print " + "-".repeat(7) + "(#-1);");
        Check.fine("fn f(a){}print " + "-".repeat(6) + "f(-1);", 0);
        Check.fault(1, "fn f(a){}print " + "-".repeat(7) + "f(#-1);");
        Check.fault(1, "fn f(a){}print " + "-".repeat(8) + "f#(1);");
    }

    /** No two faults of one place can have two kinds: 2 is told at NAMES, and no NAME has both. */
    @Sentence(promise = 4, says = "If there is none: of these the one with the least place, of one place the lowest kind:")
    static void leastPlace() {
        Check.fault(2, "print #a;print b;");
        Check.fault(2, "fn f(){return #a;}fn f(){}");
        Check.fault(2, "fn f(){}fn #f(){return a;}");
        Check.fault(3, "fn f(a,#a){}fn f(){}");
        Check.fault(2, "fn f(){}fn #f(a,a){}");
        Check.fault(2, "fn f(){return #g();}fn h(a,a){}");
        Check.fault(3, "fn f(){return #g();}fn g(a){return b;}");
        Check.fault(2, "fn f(){return #b+g();}fn g(a){}");
        Check.fault(3, "fn f(a){}print #f(1,2)+f2(1);");
        Check.fault(2, "fn f(a){}print #f2(1)+f(1,2);");
        Check.fault(3, "fn f(a){}print #f(b,c);");
        Check.fault(2, "fn f(a){}print f(#b);");
        Check.fault(3, lets(12) + "let #w=b;");
        Check.fault(2, lets(12) + "print #b;let w=1;");
        Check.fault(3, "print 1" + "+1".repeat(80) + "#+b;");
        Check.fault(2, "print 1" + "+1".repeat(80) + ";print #b+1;");
    }

    @Sentence(promise = 4, says = "2: a FN's NAME that one ahead of it has;")
    static void fnNameThatOneAheadHas() {
        Check.fault(2, "fn f(){}fn #f(){}");
        Check.fault(2, "fn f(){}fn g(){}fn #f(a){}fn g(){}");
        Check.fault(2, "fn f(){}fn #f(){}fn f(){}");
        Check.fine("fn f(){}fn ff(){}fn f1(){}", 0);
        Check.fine("fn f(f){let g=f;}fn g(f){let f=f;}let f=1;let g=f;", 0);
    }

    @Sentence(promise = 4, says = "a NAME ahead of ( that is no FN's;")
    static void callOfNoFn() {
        Check.fault(2, "print #f();");
        Check.fault(2, "let f=1;print #f(1);");
        Check.fault(2, "fn g(f){return #f(1);}");
        Check.fault(2, "fn f(){}#g (1);");
        Check.fault(2, "fn f(a){}f(#g(f(1)));");
        Check.fine("fn g(f){return f(f);}fn f(g){return g;}", 0);
    }

    @Sentence(promise = 4, says = "a VARIABLE that is none of those that its FN (or THE MAIN) has up to there")
    static void variableThatIsNone() {
        Check.fault(2, "print #a;");
        Check.fault(2, "#a=1;");
        Check.fault(2, "#a.x=1;");
        Check.fault(2, "del #a.x;");
        Check.fault(2, "print #a;let a=1;");
        Check.fault(2, "let a=1;print a[#b];");
        Check.fault(2, "fn f(){return #a;}let a=1;");
        Check.fault(2, "fn f(a){}print #a;");
        Check.fault(2, "fn f(a){}fn g(){return #a;}");
        Check.fault(2, "fn f(){let a=1;}fn g(){let b=#a;}");
        Check.fault(2, "fn f(){}print #f;");
        Check.fine("let a=1;print a.b;a.c=1;", 2);
    }

    @Sentence(promise = 4, says = "(a let's own from behind its E on; BLOCKS do not matter).")
    static void letsOwnFromBehindItsE() {
        Check.fault(2, "let a=#a;");
        Check.fault(2, "let a=1+#a;let a=a;");
        Check.fine("let a=1;let a=a;", 0);
        Check.fine("let a=1;let b=a;", 0);
        Check.fine("if 0{let a=1;}print a;", 0);
        Check.fine("while 0{if 0{}else{let a=1;}}print a;", 0);
        Check.fault(2, "while 0{print #a;let a=1;}");
        Check.fault(2, "if 0{print #a;}else{let a=1;}");
        Check.fine("fn f(){if 0{let a=1;}return a;}", 0);
    }

    @Sentence(promise = 4, says = "3: a CALL (at its NAME) with another number of E than its FN has NAMES;")
    static void callWithAnotherNumber() {
        String[] heads = {"fn f(){}", "fn f(a){}", "fn f(a,b){}", "fn f(a,b,c){}", "fn f(a,b,c,d){}"};
        String[] calls = {"f();", "f(1);", "f(1,2);", "f(1,2,3);", "f(1,2,3,4);"};
        for (int takes = 0; takes < 5; takes++) {
            for (int given = 0; given < 5; given++) {
                if (takes == given) Check.fine(heads[takes] + calls[given], 0);
                else Check.fault(3, heads[takes] + "#" + calls[given]);
            }
        }
        Check.fault(3, "fn f(){#g(1,2);}fn g(a){}");
        Check.fault(3, "fn f(a){#f (1 , 2);}");
        Check.fault(3, "fn f(a){}f(#f());");
    }

    @Sentence(promise = 4, says = {"3: a CALL (at its NAME) with another number of E than its FN has NAMES;",
        "a NAME ahead of ( that is no FN's;"})
    static void theLastOfVeryManyCalls() {
        // Eight calls in 25 bytes; there can hardly be more in a text.
        String calls = "fn g(){}fn f(a){}" + "f(f(f(f(f(f(f(g())))))));".repeat(59);
        Check.fine(calls, 0);
        Check.fault(3, calls + "#f();");
        Check.fault(3, calls + "#g(1);");
        Check.fault(2, calls + "#h();");
    }

    @Sentence(promise = 4, says = "the NAME of a 13th VARIABLE;")
    static void thirteenthVariable() {
        Check.fine(lets(11), 0);
        Check.fine(lets(12), 0);
        Check.fault(3, lets(12) + "let #w=1;");
        Check.fault(3, lets(12) + "let #w=1;let x=2;let y=3;");
        Check.fault(3, lets(12) + "if 1{let #w=1;}");
        Check.fault(3, lets(12) + "let #v12=v12;");
        Check.fault(3, "fn f(v0,v1,v2,v3){" + lets(12) + "let #w=1;}");
        Check.fine("fn f(v0,v1,v2,v3){" + lets(12) + "}", 0);
        Check.fault(3, "fn f(a,b,c,d){" + lets(8) + "let #v8=1;}");
        Check.fine("fn f(a,b,c,d){" + lets(8) + "}" + lets(12), 0);
        Check.fault(3, "fn f(){" + lets(12) + "}" + lets(12) + "let #w=1;");
    }

    @Sentence(promise = 4, says = "a NAME that stands twice behind a FN's;")
    static void nameThatStandsTwice() {
        Check.fault(3, "fn f(a,#a){}");
        Check.fault(3, "fn f(a,b,c,#a){}");
        Check.fault(3, "fn f(a,#a,a,a){}");
        Check.fault(3, "fn f(a,b,#b,a){}");
        Check.fault(3, "fn f(a){}fn g(b, #b){}");
        Check.fine("fn f(a,b){}fn g(a,b){}fn a(f,g){}", 0);
    }

    @Sentence(promise = 4, says = "the 81st SITE (at its PLACE).")
    static void eightyFirstSite() {
        String head = "fn f(o){return 0" + "+1".repeat(40) + ";}let o=new();print 0";
        Check.fine(head + "+1".repeat(39) + ";", 79);
        Check.fine(head + "+1".repeat(40) + ";", 80);
        Check.fault(3, head + "+1".repeat(40) + "#+1;");
        Check.fault(3, head + "+1".repeat(40) + "#+1" + "+1".repeat(100) + ";");
        for (String step : new String[] {"print 1#-1;", "print 1#*1;", "print o#.x;", "o#.x=1;", "del o#.x;",
            "o#.x=o.y+1;", "o#.x.y=1;", "del o#.x.y;", "let p=o#.x;"}) {
            Check.fault(3, head + "+1".repeat(40) + ";" + step);
        }
        Check.fault(3, head + "+1".repeat(39) + ";o.x=1#+1;");
        Check.fault(3, head + "+1".repeat(39) + ";o.x#.y=1;");
        Check.fault(3, head + "+1".repeat(39) + ";print 1+2#*3;");
        Check.fine(head + "+1".repeat(40) + ";print -1;print 1<2;print o==o;let r=row(1);r[0]=r[0];", 80);
        Check.fault(3, "fn f(){return 0" + "+1".repeat(80) + "#+1;}");
    }
}
