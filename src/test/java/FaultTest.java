/** Promises 3 and 4 for each fault of the text that the document names; a # in a text marks the place. */
public final class FaultTest {
    public static void main(String[] args) {
        tokens();
        grammar();
        numbersOfThings();
        openOnes();
        names();
        counts();
        sites();
        leastPlace();
        good();
        Check.end();
    }

    private static void tokens() {
        Check.fault(1, "let a=1;#A=2;");
        Check.fault(1, "print 1 #> 2;");
        Check.fault(1, "print 1;#\t");
        Check.fault(1, "print 1;\n #\r");
        Check.fault(1, "print #\u00e9;");
        Check.fault(1, "let #abcdefghi=1;");
        Check.fault(1, "print #0000000001;");
        Check.fault(1, "print #536870912;");
        Check.fault(1, "print #999999999;");
        Check.fault(1, "print 1#a;");
        Check.fault(1, "print 1 #= = 2;");
        Check.fault(1, "let a #== 1;");
        Check.fault(1, "print 1==#=2;");
        Check.fine("let abcdefgh=000000001;let a1b2c3d4=536870911;", 0);
        Check.fine("let fn1=1;let lets=fn1;let x0=2;print lets<x0;", 0);
        Check.fine("\nlet\n a \n=\n1;let b=a==1;print a<b;", 0);
    }

    private static void grammar() {
        Check.fault(1, "print 1#");
        Check.fault(1, "print 1  #");
        Check.fault(1, "#;");
        Check.fault(1, "#}");
        Check.fault(1, "print 1;#fn f(){}");
        Check.fault(1, "fn #let(){}");
        Check.fault(1, "fn f#{}");
        Check.fault(1, "fn f(a,#){}");
        Check.fault(1, "fn f(#,a){}");
        Check.fault(1, "fn f(a #b){}");
        Check.fault(1, "fn f()#print 1;");
        Check.fault(1, "fn f(){#");
        Check.fault(1, "fn f(){#fn g(){}}");
        Check.fault(1, "let #1=2;");
        Check.fault(1, "let #size=2;");
        Check.fault(1, "let a#;");
        Check.fault(1, "let a=#;");
        Check.fault(1, "let a=1#}");
        Check.fault(1, "if 1 #print 2;");
        Check.fault(1, "if 1{}else #if 1{}");
        Check.fault(1, "#else{}");
        Check.fault(1, "while #{}");
        Check.fault(1, "return#;");
        Check.fault(1, "print none #none;");
        Check.fault(1, "let a=1;print a.#new;");
        Check.fault(1, "let a=1;print a.#1;");
        Check.fault(1, "let a=1;print a[#];");
        Check.fault(1, "let a=1;print a[1#;");
        Check.fault(1, "print 1<2#<3;");
        Check.fault(1, "print 1==2#<3;");
        Check.fault(1, "print 1+#*2;");
        Check.fault(1, "print #+1;");
        Check.fault(1, "print row(#);");
        Check.fault(1, "print size(#);");
        Check.fault(1, "print new#;");
        Check.fault(1, "print new(1#,2);");
        Check.fault(1, "print (#);");
        Check.fault(1, "fn f(){}print f(#,);");
        Check.fault(1, "fn f(){}print f(1,#);");
        Check.fault(1, "fn f(){}print f()#();");
        Check.fault(1, "let a=1;a.b#(1);");
        Check.fault(1, "let a=1;a #a;");
        Check.fault(1, "let a=1;(a)#=2;");
        Check.fault(1, "let a=1;(a.x)#=2;");
        Check.fault(1, "let a=1;1#=2;");
        Check.fault(1, "let a=1;-a#=2;");
        Check.fault(1, "let a=1;a+a.x#=2;");
        Check.fault(1, "let a=1;a<a.x#=2;");
        Check.fault(1, "let a=1;a.x*a.x#=2;");
        Check.fault(1, "fn f(){}f()#=2;");
        Check.fault(1, "new()#=2;");
        Check.fault(1, "let a=1;a=a#=2;");
        Check.fault(1, "let a=1;del a#;");
        Check.fault(1, "let a=1;del (a.x)#;");
        Check.fault(1, "let a=1;del a[0]#;");
        Check.fault(1, "let a=1;del a.x+1#;");
        Check.fault(1, "let a=1;del a.x#=1;");
        Check.fault(1, "let a=1;del a.x#");
    }

    private static void numbersOfThings() {
        StringBuilder eight = new StringBuilder();
        for (int i = 0; i < 8; i++) eight.append("fn f").append(i).append("(){}");
        Check.fine(eight.toString(), 0);
        Check.fault(1, eight + "#fn f8(){}");
        Check.fault(1, eight + "#fn f8(@");
        Check.fine("fn f(a,b,c,d){}f(1,2,3,4);", 0);
        Check.fault(1, "fn f(a,b,c,d,#e){}");
        Check.fault(1, "fn f(a,b,c,d,#){}");
        Check.fault(1, "fn f(a,b,c,d){}f(1,2,3,4,#5);");
        Check.fault(1, "fn f(a,b,c,d){}f(1,2,3,4,#(5));");
        Check.fault(1, "print f(1,2,3,4,#-5);");
    }

    private static void openOnes() {
        Check.fine("print ((((((((1))))))));", 0);
        Check.fault(1, "print ((((((((#(1)))))))));");
        Check.fine("print --------1;", 0);
        Check.fault(1, "print --------#-1;");
        Check.fine("print --------1-1;", 1);
        Check.fine("print -------(1)-1;", 1);
        Check.fault(1, "print --------#(1);");
        Check.fine("let r=row(1);print --------r[0];", 0);
        Check.fault(1, "let r=row(1);print -(-(-(-(#-r[0]))));");
        Check.fine("let r=row(1);print -(-(-(r[-0])));", 0);
        Check.fault(1, "let r=row(1);print -(-(-(r[-#-0])));");
        Check.fine("if 1{if 1{if 1{if 1{if 1{if 1{if 1{if 1{}}}}}}}}", 0);
        Check.fault(1, "if 1{if 1{if 1{if 1{if 1{if 1{if 1{if 1{if 1#{}}}}}}}}}");
        Check.fault(1, "if 1{if 1{if 1{if 1{if 1{if 1{if 1{if 1{print new#();}}}}}}}}");
        Check.fine("fn f(){if 1{if 1{if 1{if 1{if 1{if 1{if 1{}}}}}}}}", 0);
        Check.fault(1, "fn f(){if 1{if 1{if 1{if 1{if 1{if 1{if 1{if 1#{}}}}}}}}}");
        Check.fine("fn f(a){return a;}print f(f(f(f(f(f(f(f(1))))))));", 0);
        Check.fault(1, "fn f(a){return a;}print f(f(f(f(f(f(f(f(f#(1)))))))));");
        Check.fault(1, "print ((((((((size#(1)))))))));");
        Check.fault(1, "print ((((((((row#(1)))))))));");
        Check.fine("print ((((1))))+((((((((1))))))));", 1);
    }

    private static void names() {
        Check.fault(2, "fn f(){}fn #f(){}");
        Check.fault(2, "print #a;");
        Check.fault(2, "#a=1;");
        Check.fault(2, "let a=#a;");
        Check.fault(2, "let a=1;print #b.a;");
        Check.fault(2, "let a=1;a.x=#x;");
        Check.fault(2, "print #f();");
        Check.fault(2, "let f=1;print #f(1);");
        Check.fault(2, "fn f(){return #a;}let a=1;");
        Check.fault(2, "fn f(a){}print #a;");
        Check.fault(2, "fn f(){let b=1;}fn g(){return #b;}");
        Check.fault(2, "while 0{print #a;let a=1;}");
        Check.fault(2, "fn f(){}print #f;");
        Check.fine("if 0{let a=1;}print a;", 0);
        Check.fine("fn f(f){return f+g(f);}fn g(g){return g;}print f(1);", 1);
        Check.fine("fn f(a){let a=a;return a;}", 0);
        Check.fine("let f=1;let g=f;print f<g;", 0);
    }

    private static void counts() {
        Check.fault(3, "fn f(a){}#f();");
        Check.fault(3, "fn f(){}#f(1);");
        Check.fault(3, "fn f(){#g(1,2);}fn g(a){}");
        Check.fault(3, "fn f(a,#a){}");
        Check.fault(3, "fn f(a,b,#a,b){}");
        StringBuilder lets = new StringBuilder();
        for (int i = 0; i < 12; i++) lets.append("let v").append(i).append("=1;");
        Check.fine(lets + "let v0=2;v11=3;", 0);
        Check.fault(3, lets + "let #v12=1;");
        Check.fault(3, lets + "let #v12=v12;");
        Check.fine("fn f(){" + lets + "}" + lets, 0);
        Check.fault(3, "fn f(){" + lets + "let #w=1;}");
        Check.fault(3, "fn f(v0,a){" + lets.toString().replace("let v11", "let #v11") + "}");
        Check.fine("fn f(v0,v1){" + lets + "}", 0);
        Check.fault(3, lets + "let #w=a;");
    }

    private static void sites() {
        StringBuilder eighty = new StringBuilder("let o=new();");
        for (int i = 0; i < 20; i++) eighty.append("o.a=o.b+o.c;");
        Check.fine(eighty.toString(), 80);
        Check.fault(3, eighty + "print 1#+1;");
        Check.fault(3, eighty + "print o#.x;");
        Check.fault(3, eighty + "o#.x=o.x;");
        Check.fault(3, eighty + "del o#.x;");
        Check.fine(eighty + "print -1;print 1<2;print o==o;let r=row(1);r[0]=r[0];", 80);
        String kinds = "let o=new();o.a=1;print o.a+1-2*3;del o.a;o.b.c=1;del o.b.c;";
        ShapeEngine x = Check.with(kinds);
        int[] want = {1, 0, 3, 3, 3, 2, 0, 1, 0, 2};
        Check.due("sites", x.count(2), want.length);
        int place = kinds.indexOf(';');
        for (int s = 0; s < want.length; s++) {
            place++;
            while (".+-*".indexOf(kinds.charAt(place)) < 0) place++;
            Check.due("kind of site " + s, x.site(s, 0), want[s]);
            Check.due("place of site " + s, x.site(s, 1), place);
        }
    }

    private static void leastPlace() {
        Check.fault(1, "print a;f();print 1#");
        Check.fault(2, "fn f(){return #a;}fn f(){}");
        Check.fault(3, "fn f(a){#f();}fn f(a){}");
        Check.fault(2, "fn f(){return #g();}fn h(a,a){}");
        Check.fault(3, "fn h(a,#a){}fn f(){return g();}");
        Check.fault(2, "fn f(a){}print #f2(1)+f(1,2);");
        Check.fault(3, "fn f(a){}print #f(1,2)+f2(1);");
        Check.fault(2, "fn f(a){}print f(#b);");
        Check.fault(3, "fn f(a){}print #f(b,c);");
    }

    private static void good() {
        Check.fine("fn f(){}f();f()==f();print f();return f();", 0);
        Check.fine("-1.x=1;", 1);
        Check.fine("(1).x=1;new().y=2;row(1)[0]=3;none.z=4;", 3);
        Check.fine("del new().x;del (new()).x;del -1.x;", 3);
        Check.fine("return 1;print 2;", 0);
        Check.fine("fn f(){return 1;}f().x=1;f()[0]=2;del f().x;", 2);
        Check.fine("print 1<2+3;print 1+2==3*4;", 3);
    }
}
