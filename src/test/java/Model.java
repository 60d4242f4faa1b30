import java.util.ArrayList;
import java.util.Arrays;
import java.util.List;
import java.util.function.ToLongFunction;

/**
 * The document once more, as slow and plain as can be, with none of the class's shortcuts: a text is a tree,
 * a FIELD is counted place by place, each thing AHEAD is tried from the start.
 */
final class Model {
    static final int NONE = -1;
    static final List<String> OWN = Arrays.asList("slope", "by", "steep", "iron", "fence", "row", "age", "stake",
            "walks", "roots", "tide", "year", "left", "number", "field", "cut", "first", "below", "or", "and", "not",
            "all", "min", "max");

    static final class Fault extends RuntimeException {
        private static final long serialVersionUID = 1L;
        final int kind;
        final int at;

        Fault(int kind, int at) {
            this.kind = kind;
            this.at = at;
        }
    }

    /** How all lies, and of what a PART is asked. */
    static final class State {
        int year;
        int[] ages = {};
        boolean[] cut = {};
        int[][] rows = {};
        boolean[][] posts = {};
        List<int[]> kept = new ArrayList<>();
        int column;
        int fence;

        State copy() {
            State s = new State();
            s.year = year;
            s.ages = ages.clone();
            s.cut = cut.clone();
            s.rows = deep(rows);
            s.posts = new boolean[posts.length][];
            for (int c = 0; c < posts.length; c++) {
                s.posts[c] = posts[c].clone();
            }
            s.kept = new ArrayList<>(kept);
            return s;
        }

        static int[][] deep(int[][] a) {
            int[][] b = new int[a.length][];
            for (int k = 0; k < a.length; k++) {
                b[k] = a[k].clone();
            }
            return b;
        }

        int posts() {
            int n = 0;
            for (boolean[] column : posts) {
                for (boolean post : column) {
                    n += post ? 1 : 0;
                }
            }
            return n;
        }

        int left(int f) {
            int n = 0;
            for (int row : rows[f]) {
                n += row >= 0 ? 1 : 0;
            }
            return n;
        }

        int owner(int c, int r) {
            for (int row = r; row >= 0; row--) {
                for (int f = 0; f < rows.length; f++) {
                    if (rows[f][c] == row) {
                        return f;
                    }
                }
            }
            return NONE;
        }

        int field(int f) {
            int n = 0;
            for (int c = 0; c < posts.length; c++) {
                for (int r = 0; r < posts[c].length; r++) {
                    n += owner(c, r) == f ? 1 : 0;
                }
            }
            return n;
        }

        int below(int one, int other) {
            int n = 0;
            for (int c = 0; c < posts.length; c++) {
                n += rows[one][c] >= 0 && rows[other][c] >= 0 && rows[one][c] > rows[other][c] ? 1 : 0;
            }
            return n;
        }
    }

    /** A told slope. */
    static final class Told {
        int statements;
        int columns;
        int rows;
        int tide;
        int[] steep;
        List<String> names = new ArrayList<>();
        State first = new State();
        ToLongFunction<State> walks;
        ToLongFunction<State> roots;
    }

    final List<Integer> tape = new ArrayList<>();
    final int[] refused = new int[6];
    int fault;
    int faultAt = NONE;
    Told told;
    State now = new State();
    List<State> pasts = new ArrayList<>();
    List<int[]> seen = new ArrayList<>();
    List<Integer> image = new ArrayList<>();
    long seed = 1;

    // ---- texts

    final class Text {
        final int[] b = tape.stream().mapToInt(Integer::intValue).toArray();
        int at = 0;
        char where = 'q';
        Told t = new Told();

        boolean letter(int k) {
            return k < b.length && b[k] >= 97 && b[k] <= 122;
        }

        boolean digit(int k) {
            return k < b.length && b[k] >= 48 && b[k] <= 57;
        }

        boolean solid(int k) {
            return letter(k) || digit(k);
        }

        /** To the first byte of what stands next; a word or number there must not touch another one. */
        int next() {
            int from = at;
            while (at < b.length && (b[at] == 10 || b[at] == 32)) {
                at++;
            }
            if (from == at && at > 0 && solid(at) && solid(at - 1)) {
                throw new Fault(1, at);
            }
            return at;
        }

        int peekPlace() {
            int k = at;
            while (k < b.length && (b[k] == 10 || b[k] == 32)) {
                k++;
            }
            return k;
        }

        String peekWord() {
            int from = peekPlace();
            if (from == at && at > 0 && solid(at - 1)) {
                return "";
            }
            int to = from;
            while (letter(to)) {
                to++;
            }
            StringBuilder s = new StringBuilder();
            for (int k = from; k < to; k++) {
                s.append((char) b[k]);
            }
            return s.toString();
        }

        boolean takeWord(String word) {
            if (!peekWord().equals(word)) {
                return false;
            }
            at = peekPlace() + word.length();
            return true;
        }

        boolean takeSign(char sign) {
            int k = peekPlace();
            if (k >= b.length || b[k] != sign) {
                return false;
            }
            at = k + 1;
            return true;
        }

        void mustWord(String word) {
            if (!takeWord(word)) {
                throw new Fault(1, next());
            }
        }

        void mustSign(char sign) {
            if (!takeSign(sign)) {
                throw new Fault(1, next());
            }
        }

        int number(int least, int most) {
            int from = next();
            if (!digit(from)) {
                throw new Fault(1, from);
            }
            int n = 0;
            for (; digit(at); at++) {
                if (at - from == 4) {
                    throw new Fault(1, at);
                }
                n = 10 * n + b[at] - 48;
            }
            if (n < least || n > most) {
                throw new Fault(2, from);
            }
            return n;
        }

        String name() {
            int from = next();
            String word = peekWord();
            if (word.isEmpty() || OWN.contains(word)) {
                throw new Fault(1, from);
            }
            if (word.length() > 6) {
                throw new Fault(1, from + 6);
            }
            at = from + word.length();
            return word;
        }

        void open(int depth, int place) {
            if (depth == 6) {
                throw new Fault(4, place);
            }
        }

        ToLongFunction<State> test(int depth) {
            ToLongFunction<State> one = both(depth);
            while (takeWord("or")) {
                ToLongFunction<State> a = one;
                ToLongFunction<State> c = both(depth);
                one = s -> a.applyAsLong(s) != 0 || c.applyAsLong(s) != 0 ? 1 : 0;
            }
            return one;
        }

        ToLongFunction<State> both(int depth) {
            ToLongFunction<State> one = fact(depth);
            while (takeWord("and")) {
                ToLongFunction<State> a = one;
                ToLongFunction<State> c = fact(depth);
                one = s -> a.applyAsLong(s) != 0 && c.applyAsLong(s) != 0 ? 1 : 0;
            }
            return one;
        }

        ToLongFunction<State> fact(int depth) {
            int place = peekPlace();
            if (takeWord("not")) {
                open(depth, place);
                ToLongFunction<State> a = fact(depth + 1);
                return s -> a.applyAsLong(s) == 0 ? 1 : 0;
            }
            if (takeSign('[')) {
                open(depth, place);
                ToLongFunction<State> a = test(depth + 1);
                mustSign(']');
                return a;
            }
            if (takeWord("all")) {
                return s -> 1;
            }
            ToLongFunction<State> a = sum(depth);
            int sign = next() < b.length ? b[at] : NONE;
            if (sign != '<' && sign != '>' && sign != '=') {
                throw new Fault(1, at);
            }
            at++;
            ToLongFunction<State> c = sum(depth);
            return s -> {
                long x = a.applyAsLong(s);
                long y = c.applyAsLong(s);
                return (sign == '<' ? x < y : sign == '>' ? x > y : x == y) ? 1 : 0;
            };
        }

        ToLongFunction<State> sum(int depth) {
            ToLongFunction<State> one = product(depth);
            while (true) {
                ToLongFunction<State> a = one;
                if (takeSign('+')) {
                    ToLongFunction<State> c = product(depth);
                    one = s -> bound(a.applyAsLong(s) + c.applyAsLong(s));
                } else if (takeSign('-')) {
                    ToLongFunction<State> c = product(depth);
                    one = s -> bound(a.applyAsLong(s) - c.applyAsLong(s));
                } else {
                    return one;
                }
            }
        }

        ToLongFunction<State> product(int depth) {
            ToLongFunction<State> one = part(depth);
            while (true) {
                ToLongFunction<State> a = one;
                if (takeSign('*')) {
                    ToLongFunction<State> c = part(depth);
                    one = s -> bound(a.applyAsLong(s) * c.applyAsLong(s));
                } else if (takeSign('/')) {
                    ToLongFunction<State> c = part(depth);
                    one = s -> quotient(a.applyAsLong(s), c.applyAsLong(s));
                } else {
                    return one;
                }
            }
        }

        ToLongFunction<State> part(int depth) {
            int place = next();
            if (digit(place)) {
                int n = number(0, 9999);
                return s -> n;
            }
            if (takeSign('(')) {
                open(depth, place);
                ToLongFunction<State> a = sum(depth + 1);
                mustSign(')');
                return a;
            }
            boolean min = takeWord("min");
            if (min || takeWord("max")) {
                place = peekPlace();
                mustSign('(');
                open(depth, place);
                ToLongFunction<State> a = sum(depth + 1);
                mustSign(',');
                ToLongFunction<State> c = sum(depth + 1);
                mustSign(')');
                return s -> min ? Math.min(a.applyAsLong(s), c.applyAsLong(s))
                        : Math.max(a.applyAsLong(s), c.applyAsLong(s));
            }
            if (takeWord("age")) {
                return s -> s.ages[s.fence];
            }
            if (takeWord("year")) {
                return s -> s.year;
            }
            if (where != 'q' && takeWord("steep")) {
                return s -> told.steep[s.column];
            }
            if (where == 'w' && takeWord("row")) {
                return s -> s.rows[s.fence][s.column];
            }
            if (where != 'w' && takeWord("left")) {
                return s -> s.left(s.fence);
            }
            if (where == 'q') {
                return questionPart(depth, place);
            }
            throw new Fault(1, place);
        }

        ToLongFunction<State> questionPart(int depth, int place) {
            if (takeWord("number")) {
                return s -> s.fence;
            }
            if (takeWord("field")) {
                return s -> s.field(s.fence);
            }
            if (takeWord("cut")) {
                return s -> s.cut[s.fence] ? 1 : 0;
            }
            if (takeWord("row")) {
                open(depth, place);
                ToLongFunction<State> a = part(depth + 1);
                return s -> {
                    long c = a.applyAsLong(s);
                    return c >= 0 && c < told.columns ? s.rows[s.fence][(int) c] : -1;
                };
            }
            if (takeWord("below")) {
                open(depth, place);
                ToLongFunction<State> a = part(depth + 1);
                return s -> {
                    long f = a.applyAsLong(s);
                    return f >= 0 && f < told.names.size() ? s.below(s.fence, (int) f) : 0;
                };
            }
            throw new Fault(1, place);
        }

        Told slope() {
            mustWord("slope");
            t.columns = number(1, 6);
            mustWord("by");
            t.rows = number(4, 30);
            mustSign(';');
            t.statements = 1;
            t.steep = new int[t.columns];
            Arrays.fill(t.steep, 1);
            t.first.posts = new boolean[t.columns][t.rows];
            while (peekPlace() < b.length) {
                int place = peekPlace();
                if (t.statements == 80) {
                    throw new Fault(5, place);
                }
                statement(place);
                mustSign(';');
                t.statements++;
            }
            t.first.cut = new boolean[t.names.size()];
            return t;
        }

        void statement(int place) {
            if (takeWord("steep")) {
                int c = number(0, t.columns - 1);
                t.steep[c] = number(0, 9);
            } else if (takeWord("iron")) {
                tooMany(t.first.posts() == 12, place);
                int c = number(0, t.columns - 1);
                int rowAt = peekPlace();
                int r = number(0, t.rows - 1);
                if (t.first.posts[c][r]) {
                    throw new Fault(2, rowAt);
                }
                t.first.posts[c][r] = true;
            } else if (takeWord("fence")) {
                tooMany(t.names.size() == 6, place);
                int nameAt = peekPlace();
                String name = name();
                if (t.names.contains(name)) {
                    throw new Fault(3, nameAt);
                }
                mustWord("row");
                int[] row = new int[t.columns];
                Arrays.fill(row, number(0, t.rows - 1));
                mustWord("age");
                int n = t.names.size();
                t.first.ages = Arrays.copyOf(t.first.ages, n + 1);
                t.first.ages[n] = number(0, 99);
                t.first.rows = Arrays.copyOf(t.first.rows, n + 1);
                t.first.rows[n] = row;
                t.names.add(name);
            } else if (takeWord("stake")) {
                int nameAt = peekPlace();
                String name = name();
                if (!t.names.contains(name)) {
                    throw new Fault(3, nameAt);
                }
                int c = number(0, t.columns - 1);
                mustWord("row");
                t.first.rows[t.names.indexOf(name)][c] = number(0, t.rows - 1);
            } else if (takeWord("walks")) {
                tooMany(t.walks != null, place);
                where = 'w';
                t.walks = sum(0);
            } else if (takeWord("roots")) {
                tooMany(t.roots != null, place);
                where = 'r';
                t.roots = test(0);
            } else if (takeWord("tide")) {
                t.tide = number(0, 100);
            } else {
                throw new Fault(1, place);
            }
        }

        void tooMany(boolean are, int place) {
            if (are) {
                throw new Fault(5, place);
            }
        }

        long question() {
            int place = peekPlace();
            String kind = peekWord();
            if (!Arrays.asList("first", "last", "often", "total", "most", "least").contains(kind)) {
                throw new Fault(1, place);
            }
            takeWord(kind);
            boolean isTest = Arrays.asList("first", "last", "often").contains(kind);
            ToLongFunction<State> asked = isTest ? test(0) : sum(0);
            if (peekPlace() < b.length) {
                throw new Fault(1, peekPlace());
            }
            List<Long> values = new ArrayList<>();
            for (int f = 0; f < told.names.size(); f++) {
                now.fence = f;
                values.add(asked.applyAsLong(now));
            }
            switch (kind) {
                case "first": return values.indexOf(1L);
                case "last": return values.lastIndexOf(1L);
                case "most": return values.stream().mapToLong(Long::longValue).max().orElse(0);
                case "least": return values.stream().mapToLong(Long::longValue).min().orElse(0);
                default: return values.stream().mapToLong(Long::longValue).sum();
            }
        }
    }

    static long bound(long n) {
        return n > 1000000 ? 1000000 : n < -1000000 ? -1000000 : n;
    }

    static long quotient(long a, long b) {
        return b == 0 ? 0 : (long) Math.floor((double) a / (double) b);
    }

    // ---- the face

    int refuse(int kind) {
        refused[kind]++;
        return NONE;
    }

    int feed(int a, int b, int c, int d, int e) {
        if (tape.size() > 1580) {
            return refuse(0);
        }
        for (int n : new int[] {a, b, c, d, e}) {
            tape.add(n >>> 24);
            tape.add(n >>> 16 & 255);
            tape.add(n >>> 8 & 255);
            tape.add(n & 255);
        }
        return tape.size();
    }

    boolean end(int n) {
        if (n < 0 || n > tape.size()) {
            refuse(0);
            return false;
        }
        tape.subList(n, tape.size()).clear();
        return true;
    }

    int slope() {
        fault = 0;
        faultAt = NONE;
        try {
            told = new Text().slope();
            now = told.first.copy();
            pasts.clear();
            seen.clear();
            return told.statements;
        } catch (Fault f) {
            fault = f.kind;
            faultAt = f.at;
            return refuse(1);
        } finally {
            tape.clear();
        }
    }

    int fault(int what) {
        return what == 0 ? fault : what == 1 ? faultAt : NONE;
    }

    int fences() {
        return told == null ? 0 : told.names.size();
    }

    int columns() {
        return told == null ? 0 : told.columns;
    }

    int rows() {
        return told == null ? 0 : told.rows;
    }

    boolean isFence(int f) {
        return f >= 0 && f < fences();
    }

    boolean isPlace(int c, int r) {
        return c >= 0 && c < columns() && r >= 0 && r < rows();
    }

    int has(int what) {
        int n = 0;
        switch (what) {
            case 0: return columns();
            case 1: return rows();
            case 2: return fences();
            case 3: return now.year;
            case 4: return now.posts();
            case 5:
                for (int f = 0; f < fences(); f++) {
                    n += now.left(f);
                }
                return n;
            case 6:
                for (boolean c : now.cut) {
                    n += c ? 1 : 0;
                }
                return n;
            case 7:
                for (int c = 0; c < columns(); c++) {
                    for (int r = 0; r < rows(); r++) {
                        n += now.owner(c, r) == NONE ? 1 : 0;
                    }
                }
                return n;
            case 8: return Math.min(40, now.kept.size());
            case 9: return seen.size();
            case 10: return pasts.size();
            default: return NONE;
        }
    }

    int letter(int f, int k) {
        if (!isFence(f) || k < 0 || k > 5) {
            return NONE;
        }
        String name = told.names.get(f);
        return k < name.length() ? name.charAt(k) - 96 : 0;
    }

    int place(int c, int r, int what) {
        if (!isPlace(c, r)) {
            return NONE;
        }
        switch (what) {
            case 0: return now.owner(c, r);
            case 1: return now.posts[c][r] ? 1 : 0;
            case 2:
                int n = 0;
                for (int[] row : now.rows) {
                    n += row[c] == r ? 1 : 0;
                }
                return n;
            default: return NONE;
        }
    }

    int fence(int f, int what) {
        if (!isFence(f)) {
            return NONE;
        }
        switch (what) {
            case 0: return now.ages[f];
            case 1: return now.field(f);
            case 2: return now.left(f);
            case 3: return now.cut[f] ? 1 : 0;
            default: return NONE;
        }
    }

    int stake(int f, int c) {
        return isFence(f) && c >= 0 && c < columns() ? now.rows[f][c] : NONE;
    }

    int paces(State s, int f, int c) {
        s.fence = f;
        s.column = c;
        long n = told.walks == null ? told.steep[c] : told.walks.applyAsLong(s);
        return (int) Math.max(0, Math.min(9, n));
    }

    int walks(int f, int c) {
        return stake(f, c) == NONE ? NONE : paces(now, f, c);
    }

    int kept(int k, int what) {
        int from = Math.max(0, now.kept.size() - 40);
        return k < 0 || from + k >= now.kept.size() || what < 0 || what > 2 ? NONE : now.kept.get(from + k)[what];
    }

    /** One YEAR: how many stakes went. */
    int pass(State s) {
        int went = 0;
        int[][] to = State.deep(s.rows);
        for (int f = 0; f < fences(); f++) {
            for (int c = 0; c < columns(); c++) {
                if (s.cut[f] || s.rows[f][c] < 0) {
                    continue;
                }
                int paces = paces(s, f, c);
                int row = s.rows[f][c];
                while (paces > 0 && row < rows() && !s.posts[c][row]) {
                    row++;
                    paces--;
                }
                to[f][c] = row < rows() ? row : -1;
                if (row >= rows()) {
                    went++;
                    s.kept.add(new int[] {s.year, f, c});
                }
            }
        }
        s.rows = to;
        for (int f = 0; f < fences(); f++) {
            s.ages[f] = Math.min(99, s.ages[f] + 1);
            s.cut[f] = false;
        }
        for (int f = 0; f < fences(); f++) {
            s.fence = f;
            s.column = 0;
            if (told.roots != null && told.roots.applyAsLong(s) != 0) {
                setAnew(s, f);
                s.kept.add(new int[] {s.year, f, 255});
            }
        }
        s.year = Math.min(999, s.year + 1);
        return went;
    }

    static void setAnew(State s, int f) {
        Arrays.fill(s.rows[f], 0);
        s.ages[f] = 0;
    }

    State ahead(State from, int n) {
        State s = from.copy();
        for (int k = 0; k < n; k++) {
            pass(s);
        }
        return s;
    }

    boolean canBe(int n, int least, int most) {
        return n >= least && n <= most && now.year + n <= 999;
    }

    int later(int f, int n, int what) {
        if (!isFence(f) || !canBe(n, 0, 60)) {
            return NONE;
        }
        State s = ahead(now, n);
        return what == 0 ? s.field(f) : what == 1 ? s.left(f) : what == 2 ? s.ages[f] : NONE;
    }

    int whose(int c, int r, int n) {
        return isPlace(c, r) && canBe(n, 0, 60) ? ahead(now, n).owner(c, r) : NONE;
    }

    int meets(int one, int other) {
        if (!isFence(one) || !isFence(other) || one == other) {
            return NONE;
        }
        for (int n = 0; canBe(n, 0, 60); n++) {
            State s = ahead(now, n);
            for (int c = 0; c < columns(); c++) {
                if (s.rows[one][c] >= 0 && s.rows[one][c] == s.rows[other][c]) {
                    return n;
                }
            }
        }
        return NONE;
    }

    int below(int one, int other) {
        return isFence(one) && isFence(other) && one != other ? now.below(one, other) : NONE;
    }

    int sets(int f, int n, int what) {
        if (!isFence(f) || !canBe(n, 1, 30) || what < 0 || what > 1) {
            return NONE;
        }
        int best = NONE;
        int when = NONE;
        for (int k = -1; k < n; k++) {
            int least = Integer.MAX_VALUE;
            State s = now.copy();
            for (int y = 0; y <= n; y++) {
                if (y > 0) {
                    least = Math.min(least, s.field(f));
                }
                if (y == k) {
                    setAnew(s, f);
                }
                pass(s);
            }
            if (k == -1 || least > best) {
                best = least;
                when = k;
            }
        }
        return what == 0 ? when : best;
    }

    int irons(int f, int n, int what) {
        if (!isFence(f) || !canBe(n, 1, 20) || now.posts() >= 24) {
            return NONE;
        }
        int[] best = {NONE, NONE, ahead(now, n).field(f)};
        for (int c = 0; c < columns(); c++) {
            for (int r = 0; r < rows(); r++) {
                State s = now.copy();
                if (s.posts[c][r]) {
                    continue;
                }
                s.posts[c][r] = true;
                int field = ahead(s, n).field(f);
                if (field > best[2]) {
                    best = new int[] {c, r, field};
                }
            }
        }
        return best[0] == NONE || what < 0 || what > 2 ? NONE : best[what];
    }

    int rest(int n) {
        if (told == null || !canBe(n, 1, 30)) {
            return NONE;
        }
        int all = 1 << fences();
        int[][] fields = new int[all][fences()];
        for (int set = 0; set < all; set++) {
            State s = now.copy();
            for (int f = 0; f < fences(); f++) {
                s.cut[f] = (set & 1 << f) != 0;
            }
            s = ahead(s, n);
            for (int f = 0; f < fences(); f++) {
                fields[set][f] = s.field(f);
            }
        }
        for (int many = 0; many <= fences(); many++) {
            for (int set = 0; set < all; set++) {
                boolean still = Integer.bitCount(set) == many;
                for (int f = 0; f < fences(); f++) {
                    still &= fields[set ^ 1 << f][f] <= fields[set][f];
                }
                if (still) {
                    return set;
                }
            }
        }
        return NONE;
    }

    int see() {
        List<int[]> rows = new ArrayList<>();
        boolean right = told != null && tape.size() % 3 == 0 && tape.size() >= 3 && tape.size() <= 48;
        for (int k = 0; right && k < tape.size(); k += 3) {
            int f = tape.get(k + 2);
            right = isPlace(tape.get(k), tape.get(k + 1)) && (f == 255 || isFence(f));
            rows.add(new int[] {tape.get(k), tape.get(k + 1), f == 255 ? NONE : f});
        }
        tape.clear();
        if (!right) {
            return refuse(1);
        }
        seen = rows;
        return rows.size();
    }

    List<Integer> fitting() {
        List<Integer> fit = new ArrayList<>();
        for (int n = 0; canBe(n, 0, 30); n++) {
            State s = ahead(now, n);
            boolean so = true;
            for (int[] row : seen) {
                so &= s.owner(row[0], row[1]) == row[2];
            }
            if (so) {
                fit.add(n);
            }
        }
        return fit;
    }

    int fits(int what) {
        if (told == null) {
            return NONE;
        }
        List<Integer> fit = fitting();
        switch (what) {
            case 0: return fit.size();
            case 1: return fit.isEmpty() ? NONE : fit.get(0);
            case 2: return fit.isEmpty() ? NONE : fit.get(fit.size() - 1);
            default: return NONE;
        }
    }

    int tells(int what) {
        if (told == null || what < 0 || what > 2) {
            return NONE;
        }
        List<State> states = new ArrayList<>();
        for (int n : fitting()) {
            states.add(ahead(now, n));
        }
        int[] best = {NONE, NONE, NONE};
        for (int c = 0; c < columns() && !states.isEmpty(); c++) {
            for (int r = 0; r < rows(); r++) {
                int most = 0;
                for (int f = -1; f < fences(); f++) {
                    int many = 0;
                    for (State s : states) {
                        many += s.owner(c, r) == f ? 1 : 0;
                    }
                    most = Math.max(most, many);
                }
                if (best[0] == NONE || most < best[2]) {
                    best = new int[] {c, r, most};
                }
            }
        }
        return best[what];
    }

    void act() {
        pasts.add(now.copy());
        if (pasts.size() > 20) {
            pasts.remove(0);
        }
    }

    boolean set(int f) {
        if (!isFence(f)) {
            refuse(2);
            return false;
        }
        act();
        setAnew(now, f);
        return true;
    }

    boolean cut(int f) {
        if (!isFence(f) || now.cut[f]) {
            refuse(2);
            return false;
        }
        act();
        now.cut[f] = true;
        return true;
    }

    int iron(int c, int r) {
        if (!isPlace(c, r) || now.posts[c][r] || now.posts() == 24) {
            return refuse(2);
        }
        act();
        now.posts[c][r] = true;
        return now.posts();
    }

    int years(int n) {
        if (told == null || !canBe(n, 1, 100)) {
            return refuse(3);
        }
        act();
        int went = 0;
        for (int k = 0; k < n; k++) {
            went += pass(now);
        }
        return went;
    }

    int draw(int m) {
        seed = (1103515245L * seed + 12345L) % (1L << 31);
        return (int) (seed / 64 % m);
    }

    int chance(int n) {
        if (told == null || !canBe(n, 1, 100)) {
            return refuse(3);
        }
        act();
        int tides = 0;
        for (int k = 0; k < n; k++) {
            if (draw(100) < told.tide && fences() > 0) {
                int f = draw(fences());
                int c = draw(columns());
                tides++;
                if (now.rows[f][c] >= 0) {
                    now.rows[f][c] = -1;
                    now.kept.add(new int[] {now.year, f, c});
                }
            }
            pass(now);
        }
        return tides;
    }

    boolean undo() {
        if (pasts.isEmpty()) {
            refuse(4);
            return false;
        }
        now = pasts.remove(pasts.size() - 1);
        return true;
    }

    boolean seed(int to) {
        if (to < 0) {
            refuse(5);
            return false;
        }
        seed = to;
        return true;
    }

    long ask() {
        if (told == null) {
            tape.clear();
            return -1000000000000000L;
        }
        fault = 0;
        faultAt = NONE;
        try {
            return new Text().question();
        } catch (Fault f) {
            fault = f.kind;
            faultAt = f.at;
            return -1000000000000000L;
        } finally {
            tape.clear();
        }
    }

    static int check(List<Integer> bytes) {
        int c = 131;
        for (int b : bytes) {
            c = (3 * c + b) % 251;
        }
        return c;
    }

    List<Integer> imageOf(State s) {
        List<Integer> bytes = new ArrayList<>(Arrays.asList(s.year >> 8, s.year & 255, s.posts()));
        for (int c = 0; c < columns(); c++) {
            for (int r = 0; r < rows(); r++) {
                if (s.posts[c][r]) {
                    bytes.add(c);
                    bytes.add(r);
                }
            }
        }
        for (int f = 0; f < fences(); f++) {
            bytes.add(s.ages[f]);
            bytes.add(s.cut[f] ? 1 : 0);
            for (int row : s.rows[f]) {
                bytes.add(row < 0 ? 255 : row);
            }
        }
        bytes.add(check(bytes));
        return bytes;
    }

    int image() {
        image = imageOf(now);
        return image.size();
    }

    int octet(int k) {
        return k >= 0 && k < image.size() ? image.get(k) : NONE;
    }

    /** Reads as it comes, and takes what it read only if it would write the same bytes again. */
    boolean on() {
        State s = told == null ? null : told.first.copy();
        List<Integer> bytes = new ArrayList<>(tape);
        tape.clear();
        if (s == null || !readImage(bytes, s) || !imageOf(s).equals(bytes)) {
            refuse(5);
            return false;
        }
        now = s;
        pasts.clear();
        return true;
    }

    boolean readImage(List<Integer> bytes, State s) {
        if (bytes.size() < 4 || bytes.get(2) > 24) {
            return false;
        }
        s.year = bytes.get(0) * 256 + bytes.get(1);
        int posts = bytes.get(2);
        int at = 3;
        if (s.year > 999 || bytes.size() != 4 + 2 * posts + fences() * (2 + columns())) {
            return false;
        }
        s.posts = new boolean[columns()][rows()];
        for (int k = 0; k < posts; k++, at += 2) {
            if (!isPlace(bytes.get(at), bytes.get(at + 1))) {
                return false;
            }
            s.posts[bytes.get(at)][bytes.get(at + 1)] = true;
        }
        for (int f = 0; f < fences(); f++) {
            s.ages[f] = bytes.get(at);
            s.cut[f] = bytes.get(at + 1) == 1;
            at += 2;
            for (int c = 0; c < columns(); c++, at++) {
                int row = bytes.get(at);
                if (row != 255 && row >= rows()) {
                    return false;
                }
                s.rows[f][c] = row == 255 ? -1 : row;
            }
            if (s.ages[f] > 99) {
                return false;
            }
        }
        return true;
    }

    int status(int what) {
        return what >= 0 && what < 6 ? refused[what] : NONE;
    }
}
