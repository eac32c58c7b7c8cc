/** Promise 17: fn, and when functions are made and left; guesses of promise 16. */
public final class MakingTest {
    public static void main(String[] args) {
        facts();
        made();
        leftByShape();
        leftByDictionary();
        leftByWide();
        guesses();
        guessOutlivesEntries();
        cold();
        leftInAnOuterCall();
        Check.end();
    }

    private static void fn(ShapeEngine x, int f, int... want) {
        for (int w = 0; w < want.length; w++) Check.due("fn(" + f + ", " + (w + 1) + ")", x.fn(f, w + 1), want[w]);
    }

    private static String times(int n, String call) {
        return call.repeat(n);
    }

    private static void facts() {
        ShapeEngine x = Check.with("fn f(){}fn g(a,b,c,d){}");
        Check.due("names of f", x.fn(0, 0), 0);
        Check.due("names of g", x.fn(1, 0), 4);
        fn(x, 0, 0, 0, 0, 0, 0, 0, -1);
        Check.due("what 8", x.fn(0, 8), -2);
        Check.due("what -1", x.fn(0, -1), -2);
        Check.due("fn 2", x.fn(2, 0), -2);
        Check.due("fn -1", x.fn(-1, 0), -2);
    }

    private static void made() {
        ShapeEngine x = Check.ran("fn f(){}" + times(3, "f();"));
        fn(x, 0, 3, 3, 0, 0, 0, 0, -1);
        Check.due("told(12)", x.told(12), 0);
        x = Check.ran("fn f(){}fn g(){}g();" + times(4, "f();"));
        fn(x, 0, 4, 4, 1, 1, 0, 0, -1);
        fn(x, 1, 1, 1, 0, 0, 0, 0, -1);
        Check.due("told(12)", x.told(12), 1);
        x = Check.ran("fn f(){}" + times(9, "f();"));
        fn(x, 0, 9, 9, 1, 1, 0, 0, -1);
    }

    private static final String READ = "fn f(o){return o.x;}let a=new();a.x=1;let b=new();let c=new();c.y=1;";

    private static void leftByShape() {
        ShapeEngine x = Check.ran(READ + times(4, "f(a);"));
        Check.due("a guess", x.site(0, 7), 1);
        fn(x, 0, 4, 4, 1, 1, 0, 0, -1);
        x = Check.ran(READ + times(5, "f(a);") + "print f(c);");
        fn(x, 0, 6, 0, 0, 1, 1, 0, 0);
        Check.due("no guess any more", x.site(0, 7), 0);
        Check.due("told(13)", x.told(13), 1);
        Check.due("its value all the same", x.paper(0, 0), 0);
        // The fourth call itself may leave it: it is made ahead of what it does.
        x = Check.ran(READ + times(3, "f(a);") + "f(b);");
        fn(x, 0, 4, 0, 0, 1, 1, 0, 0);
        // Two shapes in the guess.
        x = Check.ran(READ + "f(a);f(b);f(a);f(a);f(b);f(a);");
        fn(x, 0, 6, 6, 1, 1, 0, 0, -1);
        // Made anew when its count comes to 4 again, with what is kept by then.
        x = Check.ran(READ + times(4, "f(a);") + "f(b);" + times(4, "f(a);") + "f(b);");
        fn(x, 0, 10, 5, 1, 2, 1, 0, 0);
        Check.due("told(12)", x.told(12), 2);
    }

    private static void leftByDictionary() {
        ShapeEngine x = Check.ran(READ + times(4, "f(a);") + "del c.y;f(c);");
        fn(x, 0, 5, 0, 0, 1, 1, 0, 0);
        Check.due("nothing more is kept", x.site(0, 4), 1);
        // Without entries there is no guess, and nothing to leave for.
        x = Check.ran(READ + "del c.y;" + times(5, "f(c);") + "f(a);");
        fn(x, 0, 6, 6, 1, 1, 0, 0, -1);
        Check.due("no guess", x.site(0, 7), 0);
    }

    private static void leftByWide() {
        String sum = "fn f(n){let m=n*2;return m+1;}";
        ShapeEngine x = Check.ran(sum + times(4, "f(1);"));
        Check.due("a guess of *", x.site(0, 7), 1);
        Check.due("a guess of +", x.site(1, 7), 1);
        x = Check.ran(sum + times(4, "f(1);") + "print f(536870911);");
        fn(x, 0, 5, 5, 1, 1, 0, 0, -1);
        Check.due("the greatest whole", x.printed(0), 1073741823L);
        x = Check.ran(sum + times(4, "f(1);") + "print f(536870911*2);");
        fn(x, 0, 5, 0, 0, 1, 1, 0, 0);
        Check.due("a wide", x.printed(0), 2147483645L);
        Check.due("no guess of + either", x.site(1, 7), 0);
        // A sum that gave a wide ahead has no guess.
        x = Check.ran(sum + "f(536870911*2);" + times(4, "f(1);") + "f(536870911*2);");
        fn(x, 0, 6, 6, 1, 1, 0, 0, -1);
        Check.due("both", x.site(0, 4), 3);
        // The second sum of the two is the one that leaves, where only it goes wide.
        x = Check.ran("fn f(n){let m=n+0;return m+1;}" + times(4, "f(1);") + "f(536870911*2+1);");
        fn(x, 0, 5, 0, 0, 1, 1, 0, 1);
        // - ahead of a ONE and sums of the main have no guess.
        x = Check.ran("fn f(n){return -n;}" + times(4, "f(1);") + "f(0-536870911*2-2);");
        fn(x, 0, 5, 5, 1, 1, 0, 0, -1);
    }

    private static void guesses() {
        // Of a put and a strike there is no guess; of a read that is many or did not run neither.
        ShapeEngine x = Check.ran("fn f(o,n){o.x=1;del o.y;if n{return o.z+1;}}" + times(4, "f(new(),0);"));
        for (int s = 0; s < 4; s++) Check.due("guess of site " + s, x.site(s, 7), 0);
        Check.due("made", x.fn(0, 3), 1);
        String five = "let a=new();a.a=1;let b=new();b.b=1;let c=new();c.c=1;let d=new();d.d=1;let e=new();e.e=1;";
        x = Check.ran("fn g(o){return o.x;}fn f(o){g(o);return o.y==g(o);}" + five + "f(a);f(b);f(c);f(d);f(e);");
        // f is made at its 4th call with the shapes of a, b and c, and left by that of d.
        fn(x, 1, 5, 1, 0, 1, 1, 0, 1);
        Check.due("a read that became many", x.site(0, 5), 1);
        x = Check.ran("fn f(o){return o.x;}" + five + "f(a);f(b);f(c);f(d);f(e);f(a);f(b);");
        fn(x, 0, 7, 3, 0, 1, 1, 0, 0);
        x = Check.ran("fn f(o){return o.x;}" + five + "f(a);f(b);f(c);f(d);f(e);f(a);f(b);f(c);f(d);f(e);");
        fn(x, 0, 10, 6, 1, 2, 1, 0, 0);
        Check.due("no guess of one that is many", x.site(0, 7), 0);
        // A guess is of the fn's own sites alone.
        x = Check.ran("fn f(o){return o.x;}fn g(o){return o.x;}let a=new();g(a);" + times(4, "f(a);"));
        Check.due("guess of f's", x.site(0, 7), 1);
        Check.due("guess of g's", x.site(1, 7), 0);
        x = Check.ran("fn f(){}let a=new();print a.x==1+1;" + times(4, "f();"));
        Check.due("guess of the main's read", x.site(0, 7), 0);
        Check.due("guess of the main's sum", x.site(1, 7), 0);
    }

    private static void guessOutlivesEntries() {
        // The entry of b's shape is broken by the put to a; the guess of it is not.
        String way = "fn f(o){return o.x;}let a=new();a.x=1;let b=new(a);";
        ShapeEngine x = Check.ran(way + times(4, "f(b);") + "a.x=2;");
        Check.due("no entry", x.site(0, 4), 0);
        Check.due("a guess still", x.site(0, 7), 1);
        x = Check.ran(way + times(4, "f(b);") + "a.x=2;print f(b);");
        fn(x, 0, 5, 5, 1, 1, 0, 0, -1);
        Check.due("the value", x.printed(0), 2);
        // Broken ahead of the making: no entries, so no guess.
        x = Check.ran(way + times(3, "f(b);") + "a.x=2;f(b);f(a);");
        fn(x, 0, 5, 5, 1, 1, 0, 0, -1);
        Check.due("no guess", x.site(0, 7), 0);
    }

    private static void cold() {
        // A sum that gave a wide has no guess again, so each of the three leaves f once.
        String four = times(4, "f(1,1,1);");
        String twice = "fn f(a,b,c){a+0;b+0;c+0;}let w=536870911*4;" + four + "f(w,1,1);" + four + "f(1,w,1);";
        ShapeEngine x = Check.ran(twice + times(3, "f(1,1,1);"));
        fn(x, 0, 13, 3, 0, 2, 2, 0, 1);
        x = Check.ran(twice + four + "f(1,1,w);");
        fn(x, 0, 15, 0, 0, 3, 3, 1, 2);
        x = Check.ran(twice + four + "f(1,1,w);" + times(6, "f(1,1,1);"));
        fn(x, 0, 21, 6, 0, 3, 3, 1, 2);
        Check.due("told(12)", x.told(12), 3);
        Check.due("told(13)", x.told(13), 3);
    }

    private static void leftInAnOuterCall() {
        ShapeEngine x = Check.ran("fn f(n){if n==0{return 536870911*2;}return f(n-1)+1;}print f(3);");
        // When f(0) makes it, no + and no * has given anything yet: only n-1 has a guess.
        fn(x, 0, 4, 4, 1, 1, 0, 0, -1);
        Check.due("guess of *", x.site(0, 7), 0);
        Check.due("guess of -", x.site(1, 7), 1);
        Check.due("guess of +", x.site(2, 7), 0);
        x = Check.ran("fn f(n){if n==0{return 0;}let v=f(n-1);return v+536870911;}print f(1);print f(2);print f(3);");
        // Made at the 4th call, within f(2); f(3), whose call began the 6th, is the one whose + gives a wide.
        fn(x, 0, 9, 0, 0, 1, 1, 0, 1);
        Check.due("printed", x.printed(2), 1610612733L);
    }
}
