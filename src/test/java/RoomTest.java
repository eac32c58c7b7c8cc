import com.sun.management.ThreadMXBean;
import java.lang.management.ManagementFactory;

/** The room of one run of 512 calls: 7.3 million fields and elements, 600,000 objects and arrays at most. */
public final class RoomTest {
    /** An element has a byte at least, and an object or array 16: so many bytes are within both bounds. */
    private static final long MOST_BYTES = 7_300_000;
    private static final ThreadMXBean THREADS = (ThreadMXBean) ManagementFactory.getThreadMXBean();

    public static void main(String[] args) {
        StringBuilder puts = new StringBuilder();
        for (int n = 0; n < 75; n++) puts.append("o.n").append(n).append("=0;");
        String members = "fn f(o){" + puts + "}let i=0;while i<60{let r=row(50);r[49]=none;print r;i=i+1;}while 1{f(new());}";
        String shapes = "let a=none;let i=0;while i<200{a=new(a);a.a=1;a.b=1;a.c=1;a.d=1;a.e=1;a.f=1;a.g=1;a.h=1;print a.z;"
            + "print i;i=i+1;}";
        String waiting = "fn g(a,b,c,d){return d;}fn f(n){if n==0{return 1;}return " + "1+2*g(1,2,3,".repeat(6) + "f(n-1)"
            + ")".repeat(6) + ";}print f(11);";
        // The first round loads the classes: what that takes is not the engine's.
        for (int round = 0; round < 2; round++) {
            long before = THREADS.getCurrentThreadAllocatedBytes();
            ShapeEngine x = new ShapeEngine();
            long made = THREADS.getCurrentThreadAllocatedBytes();
            int calls = use(x, members, 20);
            calls += use(x, shapes, 20);
            calls += use(x, waiting, 20);
            long grown = THREADS.getCurrentThreadAllocatedBytes();
            for (; calls < 512; calls++) x.run(20000);
            long all = THREADS.getCurrentThreadAllocatedBytes();
            if (round == 0) continue;
            System.out.println("bytes made: " + (made - before) + " new, " + (grown - made) + " by growing, " + (all - grown)
                + " in all runs behind that");
            Check.due("within the room: " + (all - before), all - before < MOST_BYTES ? 1 : 0, 1);
            Check.due("rows are used again: " + (all - grown), all - grown < 10_000 ? 1 : 0, 1);
        }
        Check.end();
    }

    /** Reads a text and runs it some times: how many calls that were. */
    private static int use(ShapeEngine x, String text, int runs) {
        Check.due("no fault", Check.read(x, text) >= 0 ? 1 : 0, 1);
        for (int r = 0; r < runs; r++) x.run(20000);
        return (text.length() + 7) / 8 + 1 + runs;
    }
}
