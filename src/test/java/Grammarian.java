import java.util.Random;

/** Writes random texts by the grammar alone, deep and crowded: most have a fault of some kind. */
final class Grammarian {
    private static final String[] SIGNS = {"+", "-", "*", "<", "=="};
    private final Random random;
    private final StringBuilder out = new StringBuilder();
    private final int names;
    private final int deepest;
    private final int most;

    Grammarian(Random random) {
        this.random = random;
        this.names = 1 + random.nextInt(20);
        this.deepest = 1 + random.nextInt(10);
        this.most = 20 + random.nextInt(1400);
    }

    private int pick(int n) {
        return random.nextInt(n);
    }

    private String name() {
        return "" + (char) ('a' + pick(names));
    }

    private void blank() {
        if (pick(12) == 0) out.append(pick(3) == 0 ? '\n' : ' ');
    }

    String write() {
        int fns = pick(4) == 0 ? pick(10) : pick(3);
        for (int f = 0; f < fns; f++) {
            out.append("fn ").append(name()).append("(");
            int takes = pick(12) == 0 ? 5 : pick(5);
            for (int t = 0; t < takes; t++) out.append(t == 0 ? "" : ",").append(name());
            out.append(")");
            block(1);
        }
        int lets = pick(3) == 0 ? pick(20) : pick(names + 1);
        for (int l = 0; l < lets; l++) {
            out.append("let ").append((char) ('a' + l)).append("=");
            e(pick(3) == 0 ? 0 : deepest);
            out.append(";");
        }
        int steps = pick(10);
        for (int s = 0; s < steps; s++) step(0);
        if (out.length() > 1500) out.setLength(1500);
        return out.toString();
    }

    private void block(int depth) {
        out.append("{");
        int steps = pick(4);
        for (int s = 0; s < steps; s++) step(depth + 1);
        out.append("}");
    }

    private void step(int depth) {
        if (out.length() > most) return;
        blank();
        switch (depth >= deepest ? 2 + pick(7) : pick(9)) {
            case 0:
                out.append("if ");
                e(depth);
                block(depth);
                if (pick(2) == 0) {
                    out.append("else");
                    block(depth);
                }
                break;
            case 1:
                out.append("while ");
                e(depth);
                block(depth);
                break;
            case 2: out.append("let ").append(name()).append("="); e(depth); out.append(";"); break;
            case 3: out.append("print "); e(depth); out.append(";"); break;
            case 4: out.append("return "); e(depth); out.append(";"); break;
            case 5:
                out.append("del ");
                if (pick(8) == 0) e(depth);
                else place(depth, 1);
                out.append(";");
                break;
            case 6: e(depth); out.append(";"); break;
            default:
                if (pick(15) == 0) e(depth);
                else place(depth, pick(3));
                out.append("=");
                e(depth);
                out.append(";");
                break;
        }
    }

    private void place(int depth, int kind) {
        if (kind == 0) {
            out.append(name());
            return;
        }
        one(depth);
        if (kind == 1) {
            out.append(".").append(name());
            return;
        }
        out.append("[");
        e(depth + 1);
        out.append("]");
    }

    private void e(int depth) {
        post(depth);
        int more = out.length() > most ? 0 : pick(3);
        for (int i = 0; i < more; i++) {
            blank();
            out.append(SIGNS[pick(i == 0 ? 5 : 3)]);
            blank();
            post(depth);
        }
    }

    private void post(int depth) {
        one(depth);
        int more = pick(4) == 0 ? pick(4) : 0;
        for (int i = 0; i < more; i++) {
            if (pick(3) == 0 && depth < deepest) {
                out.append("[");
                e(depth + 1);
                out.append("]");
            } else {
                out.append(".").append(name());
            }
        }
    }

    private void one(int depth) {
        if (depth >= deepest || out.length() > most) {
            if (pick(2) == 0) out.append(pick(300));
            else out.append(name());
            return;
        }
        switch (pick(10)) {
            case 0: out.append("-"); one(depth + 1); break;
            case 1: out.append("none"); break;
            case 2: {
                out.append(name()).append("(");
                int given = pick(30) == 0 ? 5 : pick(5);
                for (int g = 0; g < given; g++) {
                    if (g > 0) out.append(",");
                    e(depth + 1);
                }
                out.append(")");
                break;
            }
            case 3: out.append("new("); if (pick(2) == 0) e(depth + 1); out.append(")"); break;
            case 4: out.append("row("); e(depth + 1); out.append(")"); break;
            case 5: out.append("size("); e(depth + 1); out.append(")"); break;
            case 6: out.append("("); e(depth + 1); out.append(")"); break;
            case 7: out.append(pick(300)); break;
            default: out.append(name()); break;
        }
    }
}
