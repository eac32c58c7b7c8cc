/** Section 1 of the terms up to the variables, and its sites: what a text may be. Faults have a part of their own. */
final class TextSentences {
    private static final String[] KEYS = {"fn", "let", "if", "else", "while", "print", "return", "del", "new", "row",
        "size", "none"};

    private TextSentences() {
    }

    private static String fns(int n) {
        StringBuilder all = new StringBuilder();
        for (int f = 0; f < n; f++) all.append("fn f").append(f).append("(){return ").append(f).append(";}");
        return all.toString();
    }

    private static String lets(int from, int to) {
        StringBuilder all = new StringBuilder();
        for (int v = from; v < to; v++) all.append("let v").append(v).append("=").append(100 + v).append(";");
        return all.toString();
    }

    // ---- tokens

    @Sentence(promise = 3, says = "TOKENS, each as long as it can be:")
    static void tokensAsLongAsTheyCanBe() {
        Check.fine("print 1==2;", 0);
        Check.fault(1, "print 1==#=2;");
        Check.fault(1, "print 1==#");
        Check.fault(1, "let a#==1;");
        Check.fine("let fnx=1;let let1=fnx;print let1;", 0);
        Check.fault(2, "#print1;");
        Check.fault(1, "print 1#a;");
        Check.prints("12", 12);
        Check.fault(1, "print 1#print 2;");
        Check.fine("let a=1;a=-1;a=--1;print a--1;", 1);
    }

    @Sentence(promise = 3, says = "WORDS (a .. z, then a .. z and 0 .. 9; 8 at most)")
    static void wordsOfEight() {
        Check.fine("let a=1;let z=2;let az=3;let a0=4;let z9=5;", 0);
        Check.fine("let aaaaaaaa=1;let zzzzzzzz=1;let a1234567=1;let o=new();o.abcdefgh=1;", 1);
        Check.fine("fn abcdefgh(abcdefgi){}abcdefgh(1);", 0);
        Check.fault(1, "let #aaaaaaaaa=1;");
        Check.fault(1, "let #a12345678=1;");
        Check.fault(1, "let #" + "a".repeat(16) + "=1;");
        Check.fault(1, "let #" + "a".repeat(256) + "=1;");
        Check.fault(1, "let #" + "a".repeat(1400) + "=1;");
        Check.fault(1, "let o=new();o.#abcdefghi=1;");
        Check.fault(1, "#printtttt 1;");
        Check.fault(1, "#" + "a".repeat(1500));
    }

    @Sentence(promise = 3, says = "WORDS (a .. z, then a .. z and 0 .. 9; 8 at most)")
    static void wordsDifferInAnyByte() {
        Check.papers("let abcdefgh=1;let abcdefgi=2;let bbcdefgh=3;let abcdefg=4;print abcdefgh;print abcdefgi;"
            + "print bbcdefgh;print abcdefg;", 1, 2, 3, 4);
        Check.papers("let o=new();o.abcd1234=1;o.abcd1235=2;o.abcd=3;print o.abcd1234;print o.abcd1235;print o.abcd;"
            + "print size(o);", 1, 2, 3, 3);
        Check.papers("fn longname(){return 1;}fn longnamf(){return 2;}print longname();print longnamf();", 1, 2);
    }

    @Sentence(promise = 3, says = "WORDS (a .. z, then a .. z and 0 .. 9; 8 at most)")
    static void wordsOfOtherBytes() {
        Check.fault(1, "let #1a=1;");
        Check.fault(1, "let #0=1;");
        for (char c : "`A_Z@/:~^".toCharArray()) {
            Check.fault(1, "let #" + c + "=1;");
            Check.fault(1, "let a#" + c + "=1;");
        }
    }

    @Sentence(promise = 3, says = "NUMBERS (digits, 9 at most, not above 536870911)")
    static void numbersOfNineDigits() {
        Check.prints("0", 0);
        Check.prints("9", 9);
        Check.prints("000000000", 0);
        Check.prints("000000010", 10);
        Check.prints("99999999", 99999999);
        Check.prints("536870910", 536870910);
        Check.prints("536870911", 536870911);
        Check.fault(1, "print #0000000000;");
        Check.fault(1, "print #0000000001;");
        Check.fault(1, "print #0536870911;");
        Check.fault(1, "print #" + "0".repeat(300) + ";");
    }

    @Sentence(promise = 3, says = "NUMBERS (digits, 9 at most, not above 536870911)")
    static void numbersThatAreTooGreat() {
        Check.fault(1, "print #536870912;");
        Check.fault(1, "print #999999999;");
        Check.fault(1, "print #1000000000;");
        Check.fault(1, "print #2147483648;");
        // 2 to the 32nd and the 64th, and one more: they would be small, if they wrapped.
        Check.fault(1, "print #4294967296;");
        Check.fault(1, "print #4294967297;");
        Check.fault(1, "print #18446744073709551616;");
        Check.fault(1, "print #18446744073709551617;");
    }

    @Sentence(promise = 3, says = "SIGNS ( ) { } [ ] ; , . = == < + - * ;")
    static void signsAndNoOtherBytes() {
        Check.fine("fn f(a,b){return a;}let r=row(2);r[0]=f(1,2)*3;let o=new();o.x=1-2+3;print 1<2;print 1==2;", 4);
        String begin = "(){}[];,.=<+-* \n";
        for (int b = 0; b < 256; b++) {
            boolean letter = b >= 'a' && b <= 'z';
            boolean digit = b >= '0' && b <= '9';
            if (b == '#' || letter || digit || begin.indexOf(b) >= 0) continue;
            Check.fault(1, "print 1#" + (char) b + "2;");
            Check.fault(1, "print 1;#" + (char) b + "print 2;");
        }
        ShapeEngine x = new ShapeEngine();
        Check.due("a # begins none either", Check.read(x, "print 1;#"), -11);
        Check.due("its place", x.fault(1), 8);
    }

    @Sentence(promise = 3, says = "blanks (32, 10) may stand between.")
    static void blanksBetween() {
        Check.fine("\n let \n a \n= \n 1\n;\n\nprint  a == 1 ; \n", 0);
        Check.fine("let a=1;if(a){print(a);}else{print-a;}", 0);
        Check.fine(" \n ", 0);
        Check.fault(2, "#leta=1;");
        Check.fault(1, "print 1 #2;");
        Check.fault(1, "print 1 #= =2;");
        Check.fault(1, "let a #b=1;");
        for (int b : new int[] {0, 9, 11, 12, 13, 31, 33, 127, 160, 255}) {
            Check.fault(1, "print 1;#" + (char) b);
            Check.fault(1, "print#" + (char) b + "1;");
        }
    }

    @Sentence(promise = 3, says = "KEYS are fn let if else while print return del new row size none; other WORDS are NAMES.")
    static void keysAreNoNames() {
        for (String key : KEYS) {
            Check.fault(1, "let #" + key + "=1;");
            Check.fault(1, "fn #" + key + "(){}");
            Check.fault(1, "fn f(#" + key + "){}");
            Check.fault(1, "let o=new();o.#" + key + "=1;");
            for (String name : new String[] {key + "x", key + "0", key.substring(0, key.length() - 1), "x" + key}) {
                Check.fine("fn " + name + "(" + name + "){let " + name + "=" + name + ";}let " + name + "=new();"
                    + name + "." + name + "=1;", 1);
            }
        }
    }

    // ---- the grammar

    @Sentence(promise = 3, says = "PROGRAM: FNS (8 at most), then STEPS, to the end.")
    static void programs() {
        Check.fine("", 0);
        Check.fine(fns(1), 0);
        Check.fine("print 1;", 0);
        Check.fine(fns(8), 0);
        Check.papers(fns(8) + "print f0();print f7();", 0, 7);
        Check.fault(1, fns(8) + "#fn f8(){}");
        Check.fault(1, fns(8) + "print 1;#fn f8(){}");
        Check.fault(1, "print 1;#fn f(){}");
        Check.fault(1, fns(1) + "print 1;#" + fns(1));
        Check.fault(1, "fn f(){#fn g(){}}");
        Check.fault(1, "print 1;#}");
    }

    @Sentence(promise = {3, 17}, says = "FN: fn NAME ( NAMES ) BLOCK, NAMES: none, or up to 4 with , between.")
    static void namesOfAFn() {
        String[] texts = {"fn f(){}", "fn f(a){}", "fn f(a,b){}", "fn f(a,b,c){}", "fn f(a,b,c,d){}"};
        for (int n = 0; n < texts.length; n++) Check.due(texts[n], Check.with(texts[n]).fn(0, 0), n);
        Check.fault(1, "fn f(a,b,c,d,#e){}");
        Check.fault(1, "fn f(a,b,c,d,#e,f,g,h,i){}");
        Check.fault(1, "fn f(a #b){}");
        Check.fault(1, "fn f(a,#){}");
        Check.fault(1, "fn f(#,a){}");
        Check.fault(1, "fn f(a,#,b){}");
        Check.fault(1, "fn f(#1){}");
        Check.fault(1, "fn f(a#;");
        Check.fault(1, "fn #(){}");
        Check.fault(1, "fn f#{}");
        Check.fault(1, "fn f()#;");
        Check.fault(1, "fn f()#print 1;");
    }

    @Sentence(promise = 3, says = "BLOCK: { STEPS } .")
    static void blocks() {
        Check.fine("if 1{}", 0);
        Check.fine("if 1{print 1;}", 0);
        Check.fine("if 1{print 1;print 2;if 2{}while 3{}}", 0);
        Check.fault(1, "if 1 #print 1;");
        Check.fault(1, "if 1{print 1;#");
        Check.fault(1, "if 1{print 1#}");
        Check.fault(1, "if 1{}#}");
        Check.fault(1, "#{print 1;}");
        Check.fault(1, "if 1{#;}");
    }

    @Sentence(promise = 3, says = "STEP: let NAME = E ; | if E BLOCK, perhaps else BLOCK | while E BLOCK "
        + "| print E ; | return E ;")
    static void stepsThatBeginWithAKey() {
        Check.fine("let a=1;if a{}if a{}else{}while a{}print a;return a;", 0);
        Check.fault(1, "let #=1;");
        Check.fault(1, "let a#;");
        Check.fault(1, "let a#.x=1;");
        Check.fault(1, "let a=#;");
        Check.fault(1, "let a=1#");
        Check.fault(1, "let a=1#=2;");
        Check.fault(1, "if #{}");
        Check.fault(1, "if 1{}else#;");
        Check.fault(1, "if 1{}else #if 1{}");
        Check.fault(1, "if 1{}else{}#else{}");
        Check.fault(1, "#else{}");
        Check.fault(1, "while #{}");
        Check.fault(1, "while 1{}#else{}");
        Check.fault(1, "while 1#;");
        Check.fault(1, "print#;");
        Check.fault(1, "print 1#,2;");
        Check.fault(1, "return#;");
        Check.fault(1, "return 1#}");
    }

    @Sentence(promise = 3, says = "| del E ; (E has to be a MEMBER)")
    static void delOfAMember() {
        Check.fine("let o=new();del o.x;del o.x.y;del new().x;del (o).x;del o[0].x;del 1.x;", 7);
        for (String e : new String[] {"o", "1", "none", "o[0]", "(o.x)", "o.x+1", "o.x<1", "o.x==1", "1*o.x", "f()",
            "-o", "new()", "o.x[0]"}) {
            Check.fault(1, "fn f(){}let o=new();del " + e + "#;");
        }
        Check.fault(1, "let o=1;del o.x#");
        Check.fault(1, "let o=1;del o.x#=1;");
        Check.fault(1, "del #;");
    }

    @Sentence(promise = 3, says = "| E ; | E = E ; (the first one has to be a PLACE: a VARIABLE, a MEMBER, an ITEM).")
    static void putsToAPlace() {
        Check.fine("let a=1;a;a+1;a<1;1;none;new();(a);-a;a.x;a[0];", 2);
        Check.fine("let a=1;a=2;a.x=3;a[0]=4;a.x.y=5;a[0][1]=6;a.x[0]=7;a[0].x=8;(a).x=9;new().x=1;row(1)[0]=1;", 7);
        for (String e : new String[] {"1", "none", "(a)", "(a.x)", "(a[0])", "-a", "a+a", "a-a.x", "a*a[0]", "a<a",
            "a==a", "f()", "new()", "row(1)", "size(a)"}) {
            Check.fault(1, "fn f(){}let a=1;" + e + "#=2;");
        }
        Check.fault(1, "let a=1;a=a#=2;");
        Check.fault(1, "let a=1;a=#;");
        Check.fault(1, "let a=1;a=2#");
        Check.fault(1, "let a=1;a#");
        Check.fault(1, "#;");
    }

    @Sentence(promise = 3, says = "E: SUM, perhaps < or == and a SUM.")
    static void comparisons() {
        Check.prints("1+1<3", 1);
        Check.prints("3<1+1", 0);
        Check.prints("1+2==2+1", 1);
        Check.prints("(1<2)<1", 0);
        Check.fault(1, "print 1<2#<3;");
        Check.fault(1, "print 1<2#==3;");
        Check.fault(1, "print 1==2#<3;");
        Check.fault(1, "print 1==2#==3;");
        Check.fault(1, "print 1<#;");
        Check.fault(1, "print #<1;");
        Check.fault(1, "print #==1;");
    }

    @Sentence(promise = 3, says = "SUM: TERM { + or - TERM }.")
    static void sums() {
        Check.prints("1", 1);
        Check.prints("10-3-2", 5);
        Check.prints("10-3+2", 9);
        Check.prints("0" + "+1".repeat(80), 80);
        Check.prints("0" + "-1".repeat(80), -80);
        Check.fault(1, "print 1+#;");
        Check.fault(1, "print 1-#;");
        Check.fault(1, "print #+1;");
        Check.fault(1, "print 1+#+1;");
    }

    @Sentence(promise = 3, says = "TERM: POST { * POST }.")
    static void terms() {
        Check.prints("2*3", 6);
        Check.prints("2+3*4", 14);
        Check.prints("2*3+4*5", 26);
        Check.prints("10-2*3", 4);
        Check.prints("1" + "*1".repeat(80), 1);
        Check.prints("2*-3", -6);
        Check.fault(1, "print 2*#;");
        Check.fault(1, "print #*2;");
        Check.fault(1, "print 2*#*2;");
    }

    @Sentence(promise = 3, says = "POST: ONE { . NAME (a MEMBER) or [ E ] (an ITEM) }.")
    static void posts() {
        Check.papers("let o=new();o.o=o;o.r=row(3);o.r[2]=7;print o.o.o.o.r[2];print o.r[1+1];print -1*o.r[2];", 7, 7, -7);
        Check.fine("let o=1;print o" + ".x".repeat(80) + ";", 80);
        Check.fine("let o=1;print o" + "[0]".repeat(400) + ";", 0);
        Check.fault(1, "let o=1;print o.#;");
        Check.fault(1, "let o=1;print o.#1;");
        Check.fault(1, "let o=1;print o.#(x);");
        Check.fault(1, "let o=1;print o[#];");
        Check.fault(1, "let o=1;print o[1#,2];");
        Check.fault(1, "let o=1;print o[1#;");
        Check.fault(1, "let o=1;print o.x#(1);");
        Check.fault(1, "print #.x;");
        Check.fault(1, "print #[0];");
        // - ONE is a ONE: its MEMBER is one of what - gave.
        Check.fails(2, "let o=1;print -o#.x;");
        Check.fails(1, "let o=row(1);print #-o[0];");
    }

    @Sentence(promise = 3, says = "ONE: NUMBER | - ONE | none | NAME (a VARIABLE) | NAME ( ES ) "
        + "(a CALL; ES: none, or up to 4 E with , between)")
    static void ones() {
        Check.fine("fn f(){}fn g(a,b,c,d){}let a=1;print a;print -a;print ---1;print none;f();g(a,1+2,none,f());", 1);
        Check.fault(1, "fn g(a,b,c,d){}g(1,2,3,4,#5);");
        Check.fault(1, "fn g(a,b,c,d){}g(1,2,3,4,#5,6,7,8,9);");
        Check.fault(1, "fn f(a){}f(#,1);");
        Check.fault(1, "fn f(a){}f(1,#);");
        Check.fault(1, "fn f(a){}f(1 #2);");
        Check.fault(1, "fn f(a){}f(1#;");
        Check.fault(1, "fn f(){}f()#();");
        Check.fault(1, "print -#;");
        Check.fault(1, "print -#+1;");
    }

    @Sentence(promise = 3, says = "| new ( ) | new ( E ) | row ( E ) | size ( E ) | ( E ).")
    static void onesWithBrackets() {
        Check.fine("print new();print new(none);print row(1);print size(row(2));print (1);print ((1+2)*3);", 2);
        Check.fault(1, "print new#;");
        Check.fault(1, "print new(1#,2);");
        Check.fault(1, "print row(#);");
        Check.fault(1, "print row(1#,2);");
        Check.fault(1, "print row #1;");
        Check.fault(1, "print size(#);");
        Check.fault(1, "print size(1#,2);");
        Check.fault(1, "print (#);");
        Check.fault(1, "print (1#,2);");
        Check.fault(1, "print (1#;");
    }

    @Sentence(promise = {3, 5}, says = "THE MAIN are the STEPS behind the FNS (a CALL can be of any FN, also one behind it).")
    static void callsOfFnsBehind() {
        Check.papers("fn a(n){return b(n)+1;}fn b(n){if n<1{return 0;}return a(n-1);}print a(0);print a(3);", 1, 4);
        Check.papers("fn a(n){if n<1{return 5;}return a(n-1);}print a(9);", 5);
        ShapeEngine x = Check.papers(fns(8));
        Check.due("FNS alone do nothing", x.told(2), 0);
    }

    @Sentence(promise = {3, 18}, says = "VARIABLES of a FN are its NAMES behind it and those of its let steps, "
        + "of THE MAIN those of its lets: 12 at most each;")
    static void twelveVariablesEach() {
        StringBuilder all = new StringBuilder();
        for (int f = 0; f < 4; f++) all.append("fn f").append(f).append("(a,b,c,d){").append(lets(0, 8)).append("}");
        all.append(lets(0, 12));
        ShapeEngine x = Check.with(all.toString());
        Check.due("those of the main", x.count(3), 12);
        Check.fault(3, lets(0, 12) + "let #w=1;");
        Check.fault(3, "fn f(){" + lets(0, 12) + "let #w=1;}");
        Check.fault(3, "fn f(a){" + lets(0, 11) + "let #w=1;}");
        Check.fault(3, "fn f(a,b,c,d){" + lets(0, 8) + "let #w=1;}");
        Check.due("none", Check.with("fn f(a){let b=1;}").count(3), 0);
    }

    @Sentence(promise = {3, 5}, says = "VARIABLES of a FN are its NAMES behind it and those of its let steps,")
    static void twelveVariablesAreTwelvePlaces() {
        StringBuilder text = new StringBuilder("fn f(a,b,c,d){" + lets(0, 8) + "print a;print b;print c;print d;");
        for (int v = 0; v < 8; v++) text.append("print v").append(v).append(";");
        text.append("}").append(lets(0, 12)).append("f(1,2,3,4);");
        for (int v = 0; v < 12; v++) text.append("print v").append(v).append(";");
        Check.papers(text.toString(), 1, 2, 3, 4, 100, 101, 102, 103, 104, 105, 106, 107,
            100, 101, 102, 103, 104, 105, 106, 107, 108, 109, 110, 111);
    }

    @Sentence(promise = {3, 18}, says = "a let of one that is there is as NAME = E.")
    static void letOfOneThatIsThere() {
        ShapeEngine x = Check.papers("let a=1;let a=a+1;print a;let a=none;let a=5;print a;", 2, 5);
        Check.due("one variable", x.count(3), 1);
        Check.fine(lets(0, 12) + lets(0, 12) + "let v11=v0;", 0);
        Check.papers("fn f(a){let a=a+1;return a;}print f(1);", 2);
        Check.fine("fn f(a,b,c,d){" + lets(0, 8) + "let a=1;let v7=2;}", 0);
    }

    // ---- sites

    @Sentence(promise = {3, 16}, says = "SITES are numbered by their PLACES: of a MEMBER that is read its . , of one "
        + "that is put (E = , let is none) or struck (del) its . too, of + - * between two (a SUM) the sign.")
    static void sitesByPlace() {
        String text = "fn f(o){return o.x*2;}let o=new();let p=o.y;o.y=o.z+1;o.a.b=o.c-o.d;del o.e.f;p=-1;p=1<2;p=p==1;o.g.h=1;";
        ShapeEngine x = Check.with(text);
        int sites = 0;
        for (int at = 0; at < text.length(); at++) {
            boolean minusAheadOfOne = text.startsWith("-1", at);
            if (".+-*".indexOf(text.charAt(at)) < 0 || minusAheadOfOne) continue;
            Check.due("place of site " + sites, x.site(sites, 1), at);
            sites++;
        }
        Check.due("sites", x.count(2), sites);
        Check.each("fn of site", s -> x.site(s, 6), 0, 0, -1, -1);
    }

    @Sentence(promise = 16, says = "KINDS of SITES: 0 READ, 1 PUT, 2 STRIKE, 3 SUM.")
    static void kindsOfSites() {
        ShapeEngine x = Check.with("let o=new();let p=o.y;o.y=o.z+1;o.a.b=o.c-o.d;del o.e.f;p=o.x*2;o.r[0]=1;o.s[0].t=1;");
        Check.each("kind of site", s -> x.site(s, 0), 0, 1, 0, 3, 0, 1, 0, 3, 0, 0, 2, 0, 3, 0, 0, 1);
        Check.due("sites", x.count(2), 16);
    }
}
