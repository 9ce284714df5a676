import java.util.ArrayList;
import java.util.Collections;
import java.util.List;
import java.util.Map;
import java.util.NoSuchElementException;
import java.util.TreeMap;

/**
 * The document once more, written as plainly and as unlike the class as can be: rows are lists of values,
 * bitmaps are boolean arrays made anew from them, words are lists that logic walks run by run.
 */
final class Model {
    /** Two words of a text: what is wrong, and where. */
    private static final class Fault extends RuntimeException {
        private static final long serialVersionUID = 1L;
        final int kind;
        final int place;

        Fault(int kind, int place) {
            this.kind = kind;
            this.place = place;
        }
    }

    private static final class Col {
        boolean range;
        int card;
        List<Integer> bases = new ArrayList<>();

        int digit(int i, int v) {
            int q = v;
            for (int k = 0; k < i; k++) {
                q /= bases.get(k);
            }
            return q % bases.get(i);
        }

        int bitmaps(int i) {
            return bases.get(i) - (range ? 1 : 0);
        }
    }

    private record Token(char kind, String text, int place) {
    }

    private final List<Col> cols = new ArrayList<>();
    private List<int[]> rows = new ArrayList<>();
    private List<boolean[]> marks = new ArrayList<>();
    private List<Integer> tape = new ArrayList<>();
    private int faultPlace = -1;
    private final int[] cost = new int[3];
    private final int[] refused = new int[3];
    private int[] spending = new int[3];

    // Refusals.

    private void nsee(boolean bad) {
        if (bad) {
            refused[0]++;
            throw new NoSuchElementException();
        }
    }

    private void iae(boolean bad) {
        if (bad) {
            refused[1]++;
            throw new IllegalArgumentException();
        }
    }

    private void ise(boolean bad) {
        if (bad) {
            refused[2]++;
            throw new IllegalStateException();
        }
    }

    private void needResult(int r, int last) {
        nsee(r < 0 || r > last);
    }

    private void needColumn(int c) {
        nsee(c < 0 || c >= cols.size());
    }

    private void needRow(int row) {
        nsee(row < 0 || row >= rows.size());
    }

    // Bitmaps and words.

    private boolean[] result(int r) {
        boolean[] b = new boolean[rows.size()];
        for (int i = 0; i < b.length; i++) {
            b[i] = marks.get(i)[r];
        }
        return b;
    }

    private void setResult(int r, boolean[] b) {
        for (int i = 0; i < b.length; i++) {
            marks.get(i)[r] = b[i];
        }
    }

    private static boolean[] bitmap(Col col, int i, int j, List<Integer> values) {
        boolean[] b = new boolean[values.size()];
        for (int row = 0; row < b.length; row++) {
            int d = col.digit(i, values.get(row));
            b[row] = col.range ? d <= j : d == j;
        }
        return b;
    }

    private List<Integer> valuesOf(int c) {
        List<Integer> values = new ArrayList<>();
        for (int[] row : rows) {
            values.add(row[c]);
        }
        return values;
    }

    private boolean[] bitmap(int c, int i, int j) {
        return bitmap(cols.get(c), i, j, valuesOf(c));
    }

    static List<Integer> wordsOf(boolean[] b) {
        List<Integer> words = new ArrayList<>();
        for (int from = 0; from < b.length; from += 15) {
            int literal = 0;
            for (int i = 0; i < 15 && from + i < b.length; i++) {
                literal += b[from + i] ? (int) Math.pow(2, i) : 0;
            }
            int last = words.isEmpty() ? 0 : words.get(words.size() - 1);
            if (literal == 0) {
                if (last >= 32768 && last < 49152) {
                    words.set(words.size() - 1, last + 1);
                } else {
                    words.add(32769);
                }
            } else if (literal == 32767) {
                if (last >= 49152) {
                    words.set(words.size() - 1, last + 1);
                } else {
                    words.add(49153);
                }
            } else {
                words.add(literal);
            }
        }
        return words;
    }

    private static int lengthOf(int word) {
        return word < 32768 ? 1 : word % 16384;
    }

    /** Walks both lists of words from run to run. */
    static int stepsOf(boolean[] a, boolean[] b) {
        List<Integer> first = wordsOf(a);
        List<Integer> second = wordsOf(b);
        int steps = 0;
        int i = 0;
        int j = 0;
        int leftA = 0;
        int leftB = 0;
        while (i < first.size() || leftA > 0) {
            if (leftA == 0) {
                leftA = lengthOf(first.get(i++));
            }
            if (leftB == 0) {
                leftB = lengthOf(second.get(j++));
            }
            boolean literal = first.get(i - 1) < 32768 || second.get(j - 1) < 32768;
            int taken = literal ? 1 : Math.min(leftA, leftB);
            leftA -= taken;
            leftB -= taken;
            steps++;
        }
        return steps;
    }

    static boolean[] logicOf(int kind, boolean[] a, boolean[] b) {
        boolean[] c = new boolean[a.length];
        for (int i = 0; i < c.length; i++) {
            boolean[] answers = {a[i] && b[i], a[i] || b[i], a[i] != b[i], a[i] && !b[i]};
            c[i] = answers[kind];
        }
        return c;
    }

    private static boolean[] notOf(boolean[] a) {
        boolean[] c = new boolean[a.length];
        for (int i = 0; i < c.length; i++) {
            c[i] = !a[i];
        }
        return c;
    }

    private static int count(boolean[] b) {
        int n = 0;
        for (boolean bit : b) {
            n += bit ? 1 : 0;
        }
        return n;
    }

    // Texts.

    private static List<Token> tokens(String text) {
        List<Token> list = new ArrayList<>();
        int i = 0;
        while (i < text.length()) {
            char c = text.charAt(i);
            int from = i;
            if (c == ' ') {
                i++;
                continue;
            }
            char kind = c >= '0' && c <= '9' ? 'n' : c >= 'a' && c <= 'z' ? 'w' : 's';
            i++;
            while (kind != 's' && i < text.length()
                    && (kind == 'n' ? text.charAt(i) >= '0' && text.charAt(i) <= '9' : text.charAt(i) >= 'a' && text.charAt(i) <= 'z')) {
                i++;
            }
            list.add(new Token(kind, text.substring(from, i), from));
        }
        list.add(new Token('e', "", text.length()));
        return list;
    }

    private List<Token> reading;
    private int readAt;

    private Token peek() {
        return reading.get(readAt);
    }

    private Token want(char kind, String... texts) {
        Token t = peek();
        if (t.kind() != kind || (texts.length > 0 && !List.of(texts).contains(t.text()))) {
            throw new Fault(1, t.place());
        }
        readAt++;
        return t;
    }

    private int number(int least, int most) {
        Token t = want('n');
        java.math.BigInteger n = new java.math.BigInteger(t.text());
        if (n.compareTo(java.math.BigInteger.valueOf(least)) < 0 || n.compareTo(java.math.BigInteger.valueOf(most)) > 0) {
            throw new Fault(2, t.place());
        }
        return n.intValue();
    }

    private String take(int n) {
        StringBuilder text = new StringBuilder();
        for (int i = 0; i < n; i++) {
            text.append((char) (int) tape.get(i));
        }
        tape = new ArrayList<>();
        faultPlace = -1;
        return text.toString();
    }

    private Col columnOfText(String text) {
        reading = tokens(text);
        readAt = 0;
        Col col = new Col();
        col.range = want('w', "range", "equal").text().equals("range");
        long product = 1;
        do {
            if (col.bases.size() == 4 && peek().kind() == 'n') {
                throw new Fault(3, peek().place());
            }
            col.bases.add(number(2, 200));
            product *= col.bases.get(col.bases.size() - 1);
        } while (want('w', "x", "of").text().equals("x"));
        int place = peek().place();
        col.card = number(2, 200);
        if (product < col.card) {
            throw new Fault(4, place);
        }
        want('e');
        return col;
    }

    /** An answer with what it takes is only told when the whole text is right, so it is made as a tree first. */
    private interface Node {
        boolean[] bits();
    }

    private Node questionOf(String text) {
        reading = tokens(text);
        readAt = 0;
        Node node = node(0);
        want('e');
        return node;
    }

    private Node node(int open) {
        String name = want('w', "le", "lt", "ge", "gt", "eq", "ne", "in", "and", "or", "xor", "less", "not", "all", "none", "result").text();
        if (open == 5 && peek().text().equals("(")) {
            throw new Fault(3, peek().place());
        }
        want('s', "(");
        Node made;
        switch (name) {
            case "and": case "or": case "xor": case "less":
                made = joined(name, open + 1);
                break;
            case "not":
                Node inner = node(open + 1);
                made = () -> turned(inner.bits());
                break;
            case "all":
                made = this::allRows;
                break;
            case "none":
                made = () -> new boolean[rows.size()];
                break;
            case "result":
                int r = number(0, 5);
                made = () -> read(result(r));
                break;
            default:
                int c = number(0, cols.size() - 1);
                want('s', ",");
                int n = number(0, 999);
                if (name.equals("in")) {
                    want('s', ",");
                    int m = number(0, 999);
                    made = () -> between(c, n, m);
                } else {
                    made = () -> compared(name, c, n);
                }
        }
        want('s', ")");
        return made;
    }

    private Node joined(String name, int open) {
        List<Node> parts = new ArrayList<>();
        parts.add(node(open));
        want('s', ",");
        parts.add(node(open));
        if (name.equals("and") || name.equals("or")) {
            while (peek().text().equals(",")) {
                if (parts.size() == 4) {
                    throw new Fault(3, peek().place());
                }
                want('s', ",");
                parts.add(node(open));
            }
        }
        int kind = List.of("and", "or", "xor", "less").indexOf(name);
        return () -> {
            boolean[] r = parts.get(0).bits();
            for (int i = 1; i < parts.size(); i++) {
                r = op(kind, r, parts.get(i).bits());
            }
            return r;
        };
    }

    private boolean[] allRows() {
        return notOf(new boolean[rows.size()]);
    }

    private boolean[] read(boolean[] b) {
        spending[0]++;
        return b;
    }

    private boolean[] op(int kind, boolean[] a, boolean[] b) {
        spending[1]++;
        spending[2] += stepsOf(a, b);
        return logicOf(kind, a, b);
    }

    private boolean[] turned(boolean[] a) {
        spending[1]++;
        spending[2] += wordsOf(a).size();
        return notOf(a);
    }

    private boolean[] compared(String name, int c, int n) {
        switch (name) {
            case "le": return le(c, n);
            case "lt": return n == 0 ? new boolean[rows.size()] : le(c, n - 1);
            case "ge": return turned(n == 0 ? new boolean[rows.size()] : le(c, n - 1));
            case "gt": return turned(le(c, n));
            case "eq": return eq(c, n);
            default: return turned(eq(c, n));
        }
    }

    private boolean[] between(int c, int n, int m) {
        if (n > m) {
            return new boolean[rows.size()];
        }
        if (n == 0) {
            return le(c, m);
        }
        boolean[] high = le(c, m);
        boolean[] low = le(c, n - 1);
        return op(3, high, low);
    }

    private boolean[] le(int c, int n) {
        Col col = cols.get(c);
        if (n >= col.card - 1) {
            return allRows();
        }
        boolean[] r = null;
        for (int i = 0; i < col.bases.size(); i++) {
            int x = col.digit(i, n);
            boolean top = x == col.bases.get(i) - 1;
            if (col.range && i == 0) {
                r = top ? allRows() : read(bitmap(c, 0, x));
            } else if (col.range) {
                r = top ? r : op(0, r, read(bitmap(c, i, x)));
                r = x == 0 ? r : op(1, r, read(bitmap(c, i, x - 1)));
            } else if (i == 0) {
                r = read(bitmap(c, 0, 0));
                for (int j = 1; j <= x; j++) {
                    r = op(1, r, read(bitmap(c, 0, j)));
                }
            } else {
                r = op(0, r, read(bitmap(c, i, x)));
                for (int j = 0; j <= x - 1; j++) {
                    r = op(1, r, read(bitmap(c, i, j)));
                }
            }
        }
        return r;
    }

    private boolean[] eq(int c, int n) {
        Col col = cols.get(c);
        if (n >= col.card) {
            return new boolean[rows.size()];
        }
        boolean[] r = null;
        for (int i = 0; i < col.bases.size(); i++) {
            int x = col.digit(i, n);
            int base = col.bases.get(i);
            boolean[] piece;
            if (!col.range) {
                piece = read(bitmap(c, i, x));
            } else if (x == 0) {
                piece = read(bitmap(c, i, 0));
            } else if (x == base - 1) {
                piece = turned(read(bitmap(c, i, base - 2)));
            } else {
                piece = op(2, read(bitmap(c, i, x)), read(bitmap(c, i, x - 1)));
            }
            r = i == 0 ? piece : op(0, r, piece);
        }
        return r;
    }

    private boolean[] answered(Node node) {
        spending = new int[3];
        return op(0, node.bits(), read(result(6)));
    }

    // The face.

    int feed(int... numbers) {
        if (tape.size() + 20 > 400) {
            return -1;
        }
        for (int n : numbers) {
            for (int i = 3; i >= 0; i--) {
                tape.add((int) ((n & 0xFFFFFFFFL) / (1L << 8 * i) % 256));
            }
        }
        return tape.size();
    }

    int column(int n) {
        iae(n < 0 || n > 200 || n > tape.size());
        ise(!rows.isEmpty() || cols.size() == 4);
        try {
            cols.add(columnOfText(take(n)));
        } catch (Fault f) {
            faultPlace = f.place;
            return f.kind - 10;
        }
        return cols.size() - 1;
    }

    private boolean misfits(int[] given) {
        for (int c = 0; c < cols.size(); c++) {
            if (given[c] < 0 || given[c] >= cols.get(c).card) {
                return true;
            }
        }
        return false;
    }

    private void addRow(int[] given) {
        rows.add(given.clone());
        marks.add(new boolean[] {false, false, false, false, false, false, true});
    }

    int add(int a, int b, int c, int d) {
        int[] given = {a, b, c, d};
        iae(misfits(given));
        ise(rows.size() == 1500);
        addRow(given);
        return rows.size() - 1;
    }

    int many(int n, int a, int b, int c, int d) {
        int[] given = {a, b, c, d};
        iae(n < 1 || n > 400 || misfits(given));
        ise(rows.size() + n > 1500);
        for (int i = 0; i < n; i++) {
            addRow(given);
        }
        return rows.size();
    }

    int delete(int row) {
        needRow(row);
        nsee(!marks.get(row)[6]);
        marks.get(row)[6] = false;
        return count(result(6));
    }

    int close() {
        List<int[]> keptRows = new ArrayList<>();
        List<boolean[]> keptMarks = new ArrayList<>();
        for (int i = 0; i < rows.size(); i++) {
            if (marks.get(i)[6]) {
                keptRows.add(rows.get(i));
                keptMarks.add(marks.get(i));
            }
        }
        int gone = rows.size() - keptRows.size();
        rows = keptRows;
        marks = keptMarks;
        return gone;
    }

    int ask(int r, int n) {
        needResult(r, 5);
        iae(n < 0 || n > 200 || n > tape.size());
        try {
            Node node = questionOf(take(n));
            boolean[] answer = answered(node);
            System.arraycopy(spending, 0, cost, 0, 3);
            setResult(r, answer);
            return count(answer);
        } catch (Fault f) {
            faultPlace = f.place;
            return f.kind - 10;
        }
    }

    int load(int r, int n) {
        needResult(r, 5);
        iae(n < 0 || n > tape.size());
        String text = take(n);
        List<Boolean> bits = new ArrayList<>();
        int groups = (rows.size() + 14) / 15;
        int before = 0;
        for (int at = 0; at < n; at += 2) {
            int fault = at + 1 == n ? 1 : faultOfWord(text.charAt(at) * 256 + text.charAt(at + 1), before, bits.size() / 15, groups);
            if (fault != 0) {
                faultPlace = at;
                return fault - 10;
            }
            int word = text.charAt(at) * 256 + text.charAt(at + 1);
            for (int i = 0; i < lengthOf(word) * 15; i++) {
                bits.add(word < 32768 ? word / (1 << i) % 2 == 1 : word >= 49152);
            }
            before = word;
        }
        if (bits.size() / 15 < groups) {
            faultPlace = n;
            return 7 - 10;
        }
        boolean[] b = new boolean[rows.size()];
        for (int i = 0; i < b.length; i++) {
            b[i] = bits.get(i);
        }
        setResult(r, b);
        return count(b);
    }

    private int faultOfWord(int word, int before, int group, int groups) {
        boolean fill = word >= 32768;
        List<Integer> faults = new ArrayList<>();
        if (!fill && (word == 0 || word == 32767)) {
            faults.add(2);
        }
        if (fill && word % 16384 == 0) {
            faults.add(3);
        }
        if (fill && before >= 32768 && before / 16384 == word / 16384) {
            faults.add(4);
        }
        if (group + lengthOf(word) > groups) {
            faults.add(5);
        }
        int lastRows = rows.size() % 15;
        if (group + lengthOf(word) == groups && lastRows != 0 && (fill ? word >= 49152 : word >= 1 << lastRows)) {
            faults.add(6);
        }
        return faults.isEmpty() ? 0 : Collections.min(faults);
    }

    int fault() {
        return faultPlace;
    }

    int logic(int kind, int first, int second, int to) {
        needResult(first, 5);
        needResult(second, 5);
        needResult(to, 5);
        iae(kind < 0 || kind > 3);
        boolean[] b = logicOf(kind, result(first), result(second));
        setResult(to, b);
        return count(b);
    }

    int turn(int r) {
        needResult(r, 5);
        boolean[] b = notOf(result(r));
        setResult(r, b);
        return count(b);
    }

    int told(int what) {
        iae(what < 0 || what > 6);
        int bitmaps = 0;
        int words = 0;
        if (what == 4 || what == 5) {
            for (int c = 0; c < cols.size(); c++) {
                bitmaps += columnOf(c, 3);
                words += columnOf(c, 4);
            }
        }
        int[] answers = {cols.size(), rows.size(), count(result(6)), (rows.size() + 14) / 15, bitmaps, words, tape.size()};
        return answers[what];
    }

    private static int wordsOfComponent(Col col, int i, List<Integer> values) {
        int words = 0;
        for (int j = 0; j < col.bitmaps(i); j++) {
            words += wordsOf(bitmap(col, i, j, values)).size();
        }
        return words;
    }

    private static int wordsOfColumn(Col col, List<Integer> values) {
        int words = 0;
        for (int i = 0; i < col.bases.size(); i++) {
            words += wordsOfComponent(col, i, values);
        }
        return words;
    }

    int columnOf(int c, int what) {
        needColumn(c);
        iae(what < 0 || what > 4);
        Col col = cols.get(c);
        if (what == 4) {
            return wordsOfColumn(col, valuesOf(c));
        }
        int bitmaps = 0;
        for (int i = 0; i < col.bases.size(); i++) {
            bitmaps += col.bitmaps(i);
        }
        int[] answers = {col.card, col.bases.size(), col.range ? 1 : 0, bitmaps};
        return answers[what];
    }

    int base(int c, int component) {
        needColumn(c);
        nsee(component < 1 || component > cols.get(c).bases.size());
        return cols.get(c).bases.get(component - 1);
    }

    private boolean[] needBitmap(int c, int component, int j) {
        base(c, component);
        nsee(j < 0 || j >= cols.get(c).bitmaps(component - 1));
        return bitmap(c, component - 1, j);
    }

    int index(int c, int component, int j, int what) {
        boolean[] b = needBitmap(c, component, j);
        iae(what < 0 || what > 5);
        return measured(b, what);
    }

    private static int measured(boolean[] b, int what) {
        List<Integer> words = wordsOf(b);
        int literals = (int) words.stream().filter(w -> w < 32768).count();
        int first = -1;
        int last = -1;
        List<Integer> stretches = new ArrayList<>();
        int length = 0;
        for (int i = 0; i < b.length; i++) {
            if (b[i]) {
                first = first < 0 ? i : first;
                last = i;
                length++;
            }
            if (length > 0 && (!b[i] || i == b.length - 1)) {
                stretches.add(length);
                length = 0;
            }
        }
        int longest = stretches.isEmpty() ? 0 : Collections.max(stretches);
        int[] answers = {count(b), words.size(), literals, words.size() - literals, first, last, stretches.size(), longest};
        return answers[what];
    }

    private int needWord(boolean[] b, int k) {
        List<Integer> words = wordsOf(b);
        nsee(k < 0 || k >= words.size());
        return words.get(k);
    }

    int indexWord(int c, int component, int j, int k) {
        return needWord(needBitmap(c, component, j), k);
    }

    int result(int r, int what) {
        needResult(r, 6);
        iae(what < 0 || what > 7);
        return measured(result(r), what);
    }

    int word(int r, int k) {
        needResult(r, 6);
        return needWord(result(r), k);
    }

    boolean has(int r, int row) {
        needResult(r, 6);
        needRow(row);
        return marks.get(row)[r];
    }

    int rank(int r, int row) {
        needResult(r, 6);
        iae(row < 0 || row > rows.size());
        int n = 0;
        for (int i = 0; i < row; i++) {
            n += marks.get(i)[r] ? 1 : 0;
        }
        return n;
    }

    private List<Integer> rowsIn(int r) {
        List<Integer> list = new ArrayList<>();
        for (int i = 0; i < rows.size(); i++) {
            if (marks.get(i)[r]) {
                list.add(i);
            }
        }
        return list;
    }

    int select(int r, int k) {
        needResult(r, 6);
        List<Integer> list = rowsIn(r);
        return k < 0 || k >= list.size() ? -1 : list.get(k);
    }

    int next(int r, int row) {
        needResult(r, 6);
        iae(row < 0 || row > rows.size());
        return rowsIn(r).stream().filter(i -> i >= row).findFirst().orElse(-1);
    }

    int would(int kind, int first, int second, int what) {
        needResult(first, 6);
        needResult(second, 6);
        iae(kind < 0 || kind > 3 || what < 0 || what > 2);
        boolean[] b = logicOf(kind, result(first), result(second));
        int[] answers = {count(b), wordsOf(b).size(), stepsOf(result(first), result(second))};
        return answers[what];
    }

    boolean within(int r, int other) {
        needResult(r, 6);
        needResult(other, 6);
        return rowsIn(other).containsAll(rowsIn(r));
    }

    int cost(int what) {
        iae(what < 0 || what > 2);
        return cost[what];
    }

    int value(int c, int row) {
        needColumn(c);
        needRow(row);
        return rows.get(row)[c];
    }

    private List<Integer> sortedValues(int c, int r) {
        needColumn(c);
        needResult(r, 6);
        List<Integer> values = new ArrayList<>();
        for (int row : rowsIn(r)) {
            values.add(rows.get(row)[c]);
        }
        Collections.sort(values);
        return values;
    }

    int sum(int c, int r) {
        return sortedValues(c, r).stream().mapToInt(v -> v).sum();
    }

    int kth(int c, int r, int k) {
        List<Integer> values = sortedValues(c, r);
        return k < 0 || k >= values.size() ? -1 : values.get(k);
    }

    private Map<Integer, Integer> counts(int c, int r) {
        Map<Integer, Integer> counts = new TreeMap<>();
        for (int v : sortedValues(c, r)) {
            counts.merge(v, 1, Integer::sum);
        }
        return counts;
    }

    int mode(int c, int r, int what) {
        Map<Integer, Integer> counts = counts(c, r);
        iae(what < 0 || what > 1);
        if (counts.isEmpty()) {
            return what == 0 ? -1 : 0;
        }
        int most = Collections.max(counts.values());
        if (what == 1) {
            return most;
        }
        return counts.keySet().stream().filter(v -> counts.get(v) == most).findFirst().get();
    }

    int unlike(int c, int r) {
        return counts(c, r).size();
    }

    int span(int c, int r, int low, int high) {
        List<Integer> values = sortedValues(c, r);
        iae(low < 0 || low > 999 || high < 0 || high > 999);
        return (int) values.stream().filter(v -> v >= low && v <= high).count();
    }

    int foretold(int kind, int c, int n, int what) {
        needColumn(c);
        iae(kind < 0 || kind > 5 || n < 0 || n > 999 || what < 0 || what > 2);
        String name = List.of("le", "lt", "ge", "gt", "eq", "ne").get(kind);
        answered(() -> compared(name, c, n));
        return spending[what];
    }

    int differ(int r, int other) {
        needResult(r, 6);
        needResult(other, 6);
        return count(logicOf(2, result(r), result(other)));
    }

    int group(int r, int k, int what) {
        needResult(r, 6);
        nsee(k < 0 || k >= (rows.size() + 14) / 15);
        iae(what < 0 || what > 2);
        List<Integer> words = wordsOf(result(r));
        int which = 0;
        int behind = lengthOf(words.get(0));
        while (behind <= k) {
            which++;
            behind += lengthOf(words.get(which));
        }
        int word = words.get(which);
        int literal = word < 32768 ? word : word >= 49152 ? 32767 : 0;
        int[] answers = {literal, lengthOf(word), which};
        return answers[what];
    }

    int widest(int r) {
        needResult(r, 6);
        return wordsOf(result(r)).stream().filter(w -> w >= 32768).mapToInt(Model::lengthOf).max().orElse(0);
    }

    int heaviest(int c, int what) {
        needColumn(c);
        iae(what < 0 || what > 1);
        List<Integer> words = new ArrayList<>();
        for (int i = 0; i < cols.get(c).bases.size(); i++) {
            words.add(wordsOfComponent(cols.get(c), i, valuesOf(c)));
        }
        int most = Collections.max(words);
        return what == 1 ? most : words.indexOf(most) + 1;
    }

    int ordered(int c, int by) {
        needColumn(c);
        needColumn(by);
        List<int[]> sorted = new ArrayList<>(rows);
        sorted.sort((a, b) -> a[by] - b[by]);
        List<Integer> values = new ArrayList<>();
        for (int[] row : sorted) {
            values.add(row[c]);
        }
        return wordsOfColumn(cols.get(c), values);
    }

    int readings(int c, int what) {
        needColumn(c);
        iae(what < 0 || what > 1);
        int total = 0;
        int most = 0;
        for (int n = 0; n < cols.get(c).card; n++) {
            spending = new int[3];
            le(c, n);
            total += spending[0];
            most = Math.max(most, spending[0]);
        }
        return what == 0 ? total : most;
    }

    // Which bases: every list of bases is looked at.

    private static List<List<Integer>> allBases(int components, int bitmaps) {
        List<List<Integer>> lists = new ArrayList<>();
        if (components == 0) {
            lists.add(new ArrayList<>());
            return lists;
        }
        for (int base = 2; base <= 200 && base - 1 <= bitmaps; base++) {
            for (List<Integer> rest : allBases(components - 1, bitmaps - (base - 1))) {
                List<Integer> list = new ArrayList<>();
                list.add(base);
                list.addAll(rest);
                lists.add(list);
            }
        }
        return lists;
    }

    private static long product(List<Integer> bases) {
        long product = 1;
        for (int base : bases) {
            product *= base;
        }
        return product;
    }

    private static int told(int what, int score, List<Integer> bases) {
        return what == 0 ? score : what > bases.size() ? -1 : bases.get(what - 1);
    }

    int thrift(int card, int components, int what) {
        iae(card < 2 || card > 200 || components < 1 || components > 4 || what < 0 || what > 4);
        for (int bitmaps = 1; ; bitmaps++) {
            for (List<Integer> bases : allBases(components, bitmaps)) {
                if (product(bases) >= card) {
                    return told(what, bitmaps, bases);
                }
            }
        }
    }

    private static int readingsByRange(int card, List<Integer> bases) {
        int total = 0;
        for (int n = 0; n < card - 1; n++) {
            int q = n;
            for (int i = 0; i < bases.size(); i++) {
                int x = q % bases.get(i);
                q /= bases.get(i);
                total += x == bases.get(i) - 1 ? 0 : 1;
                total += i == 0 || x == 0 ? 0 : 1;
            }
        }
        return total;
    }

    int swift(int card, int bitmaps, int what) {
        iae(card < 2 || card > 200 || bitmaps < 1 || bitmaps > 24 || what < 0 || what > 4);
        List<Integer> best = null;
        int fewest = Integer.MAX_VALUE;
        for (int components = 1; components <= 4; components++) {
            for (List<Integer> bases : allBases(components, bitmaps)) {
                if (product(bases) >= card && readingsByRange(card, bases) < fewest) {
                    fewest = readingsByRange(card, bases);
                    best = bases;
                }
            }
        }
        return best == null ? -1 : told(what, fewest, best);
    }

    int status(int what) {
        return what < 0 || what > 2 ? -1 : refused[what];
    }
}
