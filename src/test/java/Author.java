import java.util.Random;

/** Writes random texts: mostly such as run far, with objects of few shapes that come by the same sites. */
final class Author {
    private static final String[] NUMBER_NAMES = {"x", "y", "z", "w0", "longname", "p", "q", "s", "t", "u"};
    private static final String[] OBJECT_NAMES = {"k", "l"};
    private static final String[] NUMBERS = {"0", "1", "2", "3", "7", "100", "127", "128", "129", "200", "536870911"};

    private final Random random;
    private final StringBuilder out = new StringBuilder();
    private int fns;
    private int depth;
    private boolean inFn;
    /** How seldom something of another sort than fits is written: one in so many. */
    private final int wild;
    private int names;

    Author(Random random) {
        this.random = random;
        this.wild = random.nextInt(4) == 0 ? 8 : 150;
        this.names = 2 + random.nextInt(NUMBER_NAMES.length - 1);
    }

    private int pick(int n) {
        return random.nextInt(n);
    }

    private String pick(String[] of) {
        return of[pick(of.length)];
    }

    String write() {
        fns = pick(5);
        inFn = true;
        for (int f = 0; f < fns; f++) {
            out.append("fn f").append(f).append("(o,n){");
            if (pick(2) == 0) out.append("let m=n;");
            else out.append("let m=o;m=").append(pick(9)).append(";");
            if (pick(2) == 0) out.append("let a=new(o);");
            else out.append("let a=o;");
            steps(pick(4));
            if (pick(3) == 0) {
                out.append("if 0<n{return ");
                number(1);
                out.append("+f").append(pick(fns)).append("(o,n-1);}");
            }
            if (pick(8) != 0) {
                out.append("return ");
                number(2);
                out.append(";");
            }
            out.append("}\n");
        }
        inFn = false;
        out.append("let o=new();o.x=1;o.y=2;let n=3;let m=4;let a=new(o);let b=new(a);let c=new();let r=row(4);let i=0;");
        if (pick(2) == 0) out.append("c.y=1;c.x=2;");
        if (pick(2) == 0) out.append("o.k=a;o.l=b;");
        int rounds = 2 + pick(8);
        for (int s = 0; s < rounds && out.length() < 1300; s++) mainStep();
        String text = out.toString();
        return text.length() > 1500 ? text.substring(0, 1500) : text;
    }

    private void mainStep() {
        switch (pick(4)) {
            case 0:
                out.append("i=0;while i<").append(1 + pick(9)).append("{");
                steps(1 + pick(3));
                if (pick(3) == 0) out.append("a=new(").append(pick(2) == 0 ? "a" : "o").append(");");
                out.append("i=i+1;}");
                break;
            case 1:
                rowStep();
                break;
            default:
                step();
                break;
        }
    }

    private void rowStep() {
        out.append("r[").append(pick(8) == 0 ? "i" : "" + pick(4)).append("]=");
        if (pick(4) == 0) out.append(pick(2) == 0 ? "none" : "o");
        else number(2);
        out.append(";print r[").append(pick(4)).append("];");
    }

    private void steps(int n) {
        for (int s = 0; s < n; s++) step();
    }

    private void step() {
        if (out.length() > 1350) return;
        depth++;
        switch (depth > 4 ? 3 + pick(7) : pick(12)) {
            case 0:
                out.append("if ");
                number(2);
                out.append(pick(2) == 0 ? "<" : "==");
                number(1);
                out.append("{");
                steps(1 + pick(2));
                out.append("}");
                if (pick(2) == 0) {
                    out.append("else{");
                    steps(1 + pick(2));
                    out.append("}");
                }
                break;
            case 1:
                out.append("m=");
                number(3);
                out.append(";");
                break;
            case 2:
                out.append("a=");
                object(2);
                out.append(";");
                break;
            case 3:
                out.append("del ");
                object(1);
                out.append(".").append(NUMBER_NAMES[pick(names)]).append(";");
                break;
            case 4:
                object(1);
                out.append(".").append(pick(OBJECT_NAMES)).append("=");
                object(2);
                out.append(";");
                break;
            case 5:
                out.append("print ");
                if (pick(4) == 0) object(2);
                else number(3);
                out.append(";");
                break;
            case 6:
                out.append("let ").append((char) ('a' + pick(4))).append("=");
                if (inFn) object(1);
                else out.append("new(").append(pick(2) == 0 ? "" : "o").append(")");
                out.append(";");
                break;
            default:
                object(1);
                out.append(".").append(NUMBER_NAMES[pick(names)]).append("=");
                number(2);
                out.append(";");
                break;
        }
        depth--;
    }

    private void number(int deep) {
        if (pick(wild) == 0) {
            out.append(pick(2) == 0 ? "none" : "o");
            return;
        }
        switch (deep <= 0 ? pick(4) : pick(10)) {
            case 0: out.append(pick(NUMBERS)); break;
            case 1: out.append(inFn ? "n" : "i"); break;
            case 2: out.append("m"); break;
            case 3: out.append("-").append(pick(NUMBERS)); break;
            case 4: case 5:
                if (fns > 0 && !(inFn && pick(4) != 0)) {
                    out.append("f").append(pick(fns)).append("(");
                    object(1);
                    out.append(",");
                    number(deep - 1);
                    out.append(")");
                    break;
                }
                readMember();
                break;
            case 6:
                out.append("(");
                number(deep - 1);
                out.append(pick(2) == 0 ? "+" : "-");
                number(deep - 1);
                out.append(")");
                break;
            case 7:
                out.append("size(");
                object(1);
                out.append(")*");
                number(deep - 1);
                break;
            default:
                readMember();
                break;
        }
    }

    private void readMember() {
        object(1);
        out.append(".").append(NUMBER_NAMES[pick(pick(3) == 0 ? names : 2)]);
    }

    private void object(int deep) {
        if (pick(wild) == 0) {
            out.append(pick(2) == 0 ? "none" : "n");
            return;
        }
        switch (pick(deep > 0 ? 7 : 4)) {
            case 0: case 1: out.append("a"); break;
            case 2: out.append(inFn ? "o" : "b"); break;
            case 3: out.append(inFn ? "o" : "c"); break;
            case 4: out.append("o"); break;
            case 5:
                out.append("new(");
                object(deep - 1);
                out.append(")");
                break;
            default:
                if (pick(4) == 0) out.append("o.").append(pick(OBJECT_NAMES));
                else out.append("o");
                break;
        }
    }
}
