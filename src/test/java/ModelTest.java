import java.util.ArrayList;
import java.util.List;
import java.util.Random;

/** Runs of calls by chance (of fixed seeds) on the class and on the plain model of the document, side by side. */
final class ModelTest {
    private static final int RUNS = 2500;
    /** With the longest step behind them, an image's octets, they are still below the 512 of which the document speaks. */
    private static final int CALLS = 400;

    private final Random random;
    private final int run;
    private final WalkFence x = new WalkFence();
    private final Model m = new Model();
    private final String[] names = {"ann", "b", "total", "zzzzzz", "last", "most", "x", "fen"};

    private ModelTest(int run) {
        this.run = run;
        this.random = new Random(run);
        Due.about("run " + run);
    }

    public static void main(String[] args) {
        for (int run = 1; run <= RUNS; run++) {
            new ModelTest(run).play();
        }
        Due.end();
    }

    private int below(int n) {
        return random.nextInt(n);
    }

    private String any(String... of) {
        return of[below(of.length)];
    }

    private void play() {
        boolean large = run % 25 == 0;
        int calls = large ? 100 : CALLS;
        int from = Due.asked();
        slope(large);
        while (Due.asked() - from < calls) {
            call(large);
        }
    }

    private void tape(int[] bytes) {
        int[] w = Due.words(bytes);
        for (int k = 0; k < w.length; k += 5) {
            Due.is("feed()", x.feed(w[k], w[k + 1], w[k + 2], w[k + 3], w[k + 4]),
                    m.feed(w[k], w[k + 1], w[k + 2], w[k + 3], w[k + 4]));
        }
        int n = below(40) == 0 ? below(30) - 5 : bytes.length;
        Due.is("end()", x.end(n), m.end(n));
    }

    private int[] spoiled(String text) {
        StringBuilder s = new StringBuilder(text);
        for (int many = below(3) == 0 ? 1 + below(2) : 0; many > 0; many--) {
            int at = below(s.length() + 1);
            int end = Math.min(s.length(), at + 1 + below(below(4) == 0 ? 12 : 1));
            String by = any("", "", " ", ";", "0", "99", "12345", "x", "row", "not ", "(", ")", "[", "A", "\t", "\n",
                    "iron 0 0;", "slope", "fence b row 0 age 0;", "walks 1;", "roots all;", "min(1,2)", "\u00e9", "+");
            s.replace(at, below(2) == 0 ? at : end, by);
        }
        if (below(60) == 0) {
            s.setLength(below(s.length() + 1));
        }
        return Due.bytesOf(s.length() > 1600 ? s.substring(0, 1600) : s.toString());
    }

    private String sum(char where, int depth) {
        StringBuilder s = new StringBuilder(product(where, depth));
        for (int k = below(3); k > 1; k--) {
            s.append(any("+", "-", " + ", " -\n")).append(product(where, depth));
        }
        return s.toString();
    }

    private String product(char where, int depth) {
        StringBuilder s = new StringBuilder(part(where, depth));
        for (int k = below(4); k > 2; k--) {
            s.append(any("*", "/", " * ")).append(part(where, depth));
        }
        return s.toString();
    }

    private String part(char where, int depth) {
        int pick = below(depth > 0 ? 10 : 7);
        if (pick < 3) {
            return any("0", "1", "2", "3", "7", "12", "0005", "9999");
        }
        if (pick < 7) {
            return where == 'w' ? any("age", "steep", "year", "row", "steep")
                    : where == 'r' ? any("age", "steep", "year", "left", "left")
                    : any("number", "age", "left", "field", "cut", "year", "row 1", "below 0");
        }
        if (pick == 7) {
            return "(" + sum(where, depth - 1) + ")";
        }
        if (pick == 8 || where != 'q') {
            return any("min(", "max (") + sum(where, depth - 1) + "," + sum(where, depth - 1) + ")";
        }
        return any("row ", "below ") + part(where, depth - 1);
    }

    private String test(char where, int depth) {
        StringBuilder s = new StringBuilder(fact(where, depth));
        for (int k = below(4); k > 1; k--) {
            s.append(any(" or ", " and ")).append(fact(where, depth));
        }
        return s.toString();
    }

    private String fact(char where, int depth) {
        int pick = below(depth > 0 ? 10 : 7);
        if (pick < 6) {
            return sum(where, depth) + any("<", ">", "=", " < ") + sum(where, depth);
        }
        if (pick == 6) {
            return "all";
        }
        return pick == 7 ? "not " + fact(where, depth - 1) : "[" + test(where, depth - 1) + "]";
    }

    private int depth() {
        return below(8) == 0 ? 8 : below(4);
    }

    private void slope(boolean large) {
        int columns = large ? 6 : 1 + below(4);
        int rows = large ? 20 + below(11) : 4 + below(8);
        StringBuilder s = new StringBuilder("slope " + columns + " by " + rows + ";");
        int fences = below(6) == 0 ? below(7) : 1 + below(3);
        for (int f = 0; f < fences; f++) {
            s.append("fence ").append(names[f]).append(" row ").append(below(rows)).append(" age ").append(below(6) == 0
                    ? 95 + below(5) : below(9)).append(';');
        }
        for (int k = below(9); k > 0; k--) {
            s.append(line(columns, rows, Math.max(1, fences)));
        }
        if (below(3) > 0) {
            s.append("walks ").append(below(2) == 0 ? sum('w', depth()) : "steep+age/4").append(';');
        }
        if (below(3) > 0) {
            s.append("roots ").append(below(2) == 0 ? test('r', depth()) : "left<2").append(" ; ");
        }
        for (int k = below(30) == 0 ? 80 : 0; k > 0; k--) {
            s.append("tide 9;");
        }
        tape(run % 2 == 0 ? Due.bytesOf(s.toString()) : spoiled(s.toString()));
        Due.is("slope() of " + s, x.slope(), m.slope());
        Due.is("fault(0) of " + s, x.fault(0), m.fault(0));
        Due.is("fault(1) of " + s, x.fault(1), m.fault(1));
    }

    private String line(int columns, int rows, int fences) {
        switch (below(5)) {
            case 0: return "steep " + below(columns) + " " + below(10) + ";";
            case 1: return "iron " + below(columns) + " " + below(rows) + ";";
            case 2: return "stake " + names[below(fences)] + " " + below(columns) + " row " + below(rows) + ";\n";
            case 3: return "tide " + below(101) + ";";
            default: return "";
        }
    }

    private void question() {
        String s = below(2) == 0 ? any("first ", "last ", "often ") + test('q', depth())
                : any("total ", "most ", "least ") + sum('q', depth());
        tape(spoiled(s));
        Due.is("ask() of " + s, x.ask(), m.ask());
        Due.is("fault(0) of " + s, x.fault(0), m.fault(0));
        Due.is("fault(1) of " + s, x.fault(1), m.fault(1));
    }

    private void see() {
        int rows = below(8) == 0 ? below(18) : 1 + below(3);
        int n = Math.max(1, m.columns());
        List<Integer> bytes = new ArrayList<>();
        for (int k = 0; k < rows; k++) {
            int c = below(n);
            int r = below(Math.max(1, m.rows()));
            int then = m.whose(c, r, below(4));
            bytes.add(below(40) == 0 ? n : c);
            bytes.add(r);
            bytes.add(below(20) == 0 ? below(256) : then & 255);
        }
        if (below(20) == 0) {
            bytes.add(0);
        }
        tape(bytes.stream().mapToInt(Integer::intValue).toArray());
        Due.is("see()", x.see(), m.see());
    }

    private void on() {
        if (m.image.isEmpty()) {
            return;
        }
        List<Integer> bytes = new ArrayList<>(m.image);
        if (below(2) == 0) {
            int at = below(bytes.size());
            bytes.set(at, below(3) == 0 ? below(256) : Math.floorMod(bytes.get(at) + below(5) - 2, 256));
            bytes.remove(bytes.size() - 1);
            bytes.add(Model.check(bytes));
        }
        if (below(10) == 0) {
            bytes.remove(below(bytes.size()));
        }
        tape(bytes.stream().mapToInt(Integer::intValue).toArray());
        Due.is("on() of " + bytes, x.on(), m.on());
    }

    private void image() {
        Due.is("image()", x.image(), m.image());
        for (int k = -1; k <= m.image.size(); k++) {
            Due.is("octet(" + k + ")", x.octet(k), m.octet(k));
        }
    }

    private void call(boolean large) {
        int f = below(8) - 1;
        int g = below(5);
        int c = below(8) - 1;
        int r = below(12) - 1 + (large ? below(20) : 0);
        int n = below(10) == 0 ? below(64) - 2 : below(8);
        int w = below(5) - 1;
        String by = "(" + f + "/" + g + "/" + c + "/" + r + "/" + n + "/" + w + ")";
        switch (below(36)) {
            case 0: Due.is("has" + by, x.has(n), m.has(n)); return;
            case 1: Due.is("letter" + by, x.letter(f, n), m.letter(f, n)); return;
            case 2: Due.is("place" + by, x.place(c, r, w), m.place(c, r, w)); return;
            case 3: Due.is("fence" + by, x.fence(f, w), m.fence(f, w)); return;
            case 4: Due.is("stake" + by, x.stake(f, c), m.stake(f, c)); return;
            case 5: Due.is("walks" + by, x.walks(f, c), m.walks(f, c)); return;
            case 6: Due.is("kept" + by, x.kept(n, w), m.kept(n, w)); return;
            case 7: Due.is("later" + by, x.later(f, n, w), m.later(f, n, w)); return;
            case 8: Due.is("whose" + by, x.whose(c, r, n), m.whose(c, r, n)); return;
            case 9: Due.is("meets" + by, x.meets(f, g), m.meets(f, g)); return;
            case 10: Due.is("below" + by, x.below(f, g), m.below(f, g)); return;
            case 11: Due.is("sets" + by, x.sets(g, n, w), m.sets(g, n, w)); return;
            case 12: Due.is("irons" + by, x.irons(g, n, w), m.irons(g, n, w)); return;
            case 13: Due.is("irons" + by, x.irons(0, 2, w), m.irons(0, 2, w)); return;
            case 14: Due.is("rest" + by, x.rest(n), m.rest(n)); return;
            case 15: see(); return;
            case 16: Due.is("fits" + by, x.fits(w), m.fits(w)); return;
            case 17: Due.is("tells" + by, x.tells(w), m.tells(w)); return;
            case 18: Due.is("set" + by, x.set(f), m.set(f)); return;
            case 19: Due.is("cut" + by, x.cut(g), m.cut(g)); return;
            case 20: Due.is("iron" + by, x.iron(c, r), m.iron(c, r)); return;
            case 21: Due.is("years" + by, x.years(n), m.years(n)); return;
            case 22: Due.is("chance" + by, x.chance(n), m.chance(n)); return;
            case 23: Due.is("undo()", x.undo(), m.undo()); return;
            case 24: Due.is("seed" + by, x.seed(n - 1), m.seed(n - 1)); return;
            case 25: question(); return;
            case 26: question(); return;
            case 27: image(); return;
            case 28: on(); return;
            case 29: Due.is("status" + by, x.status(n), m.status(n)); return;
            case 30: Due.is("fault" + by, x.fault(w), m.fault(w)); return;
            case 31: if (below(8) == 0) { bigStep(); } return;
            case 32: if (below(8) == 0) { slope(large); } return;
            default: lookRound(); return;
        }
    }

    /** Far on, so that YEAR 999 and the last of the KEPT come into play; at last to it, or one beyond. */
    private void bigStep() {
        int n = 90 + below(13);
        for (int k = below(12); k >= 0; k--) {
            Due.is("years(" + n + ")", x.years(n), m.years(n));
        }
        int last = 999 - m.has(3) + below(3) - 1;
        Due.is("chance(" + last + ")", x.chance(last), m.chance(last));
    }

    private void lookRound() {
        int what = below(11);
        Due.is("has(" + what + ")", x.has(what), m.has(what));
        int kept = below(42);
        for (int w = 0; w < 3; w++) {
            Due.is("kept(" + kept + ", " + w + ")", x.kept(kept, w), m.kept(kept, w));
        }
    }
}
