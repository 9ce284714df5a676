import java.util.Random;

/** Random runs of calls, answered by the class and by the model; each answer has to be the same. */
public final class ModelTest {
    private static final int RUNS = 3000;
    /** What an object answers behind its 512th call is free. */
    private static final int MOST_CALLS = 512;
    /** The dearest step: 400 bytes are fed, then loaded, then fault is asked. */
    private static final int CALLS_OF_A_STEP = 22;
    private static final int CALLS_OF_A_COMPARISON = 27;

    private final Random random;
    private final AlignedRuns x = new AlignedRuns();
    private final Model m = new Model();
    private final long seed;
    private final boolean wide;
    private int calls = 0;
    private final StringBuilder log = new StringBuilder();

    private ModelTest(long seed) {
        this.seed = seed;
        random = new Random(seed);
        wide = seed % 50 == 0;
    }

    public static void main(String[] args) {
        searches();
        for (long seed = 1; seed <= RUNS && Check.wrongSoFar() == 0; seed++) {
            new ModelTest(seed).run();
        }
        Check.end("ModelTest");
    }

    /** These two need no state, so they are gone through apart, the dear ones for some cards only. */
    private static void searches() {
        for (int card = 2; card <= 200; card++) {
            AlignedRuns x = new AlignedRuns();
            Model m = new Model();
            for (int components = 1; components <= 4; components++) {
                for (int what = 0; what <= 4; what++) {
                    compareThrift(x, m, card, components, what);
                }
            }
        }
        for (int card = 2; card <= 200; card += card < 20 ? 1 : 13) {
            AlignedRuns x = new AlignedRuns();
            Model m = new Model();
            for (int bitmaps = 1; bitmaps <= 24; bitmaps += card < 20 ? 1 : 4) {
                for (int what = 0; what <= 4; what++) {
                    compareSwift(x, m, card, bitmaps, what);
                }
            }
        }
    }

    private static void compareThrift(AlignedRuns x, Model m, int card, int components, int what) {
        Check.due("thrift(" + card + ", " + components + ", " + what + ")", m.thrift(card, components, what),
            () -> x.thrift(card, components, what));
    }

    private static void compareSwift(AlignedRuns x, Model m, int card, int bitmaps, int what) {
        Check.due("swift(" + card + ", " + bitmaps + ", " + what + ")", m.swift(card, bitmaps, what),
            () -> x.swift(card, bitmaps, what));
    }

    private void run() {
        int columns = random.nextInt(5);
        for (int i = 0; i < columns; i++) {
            columnCall(columnText());
        }
        int comparedAt = 0;
        while (calls + CALLS_OF_A_STEP + 2 * CALLS_OF_A_COMPARISON <= MOST_CALLS && Check.wrongSoFar() == 0) {
            call();
            if (calls - comparedAt > 100) {
                compareState();
                comparedAt = calls;
            }
        }
        compareState();
        Check.due("calls of one object " + calls, true, () -> calls <= MOST_CALLS);
        if (Check.wrongSoFar() > 0) {
            System.out.println("seed " + seed + ":" + log);
        }
    }

    private void same(String what, Check.Call ofModel, Check.Call ofClass) {
        calls++;
        log.append('\n').append(what);
        Check.due("seed " + seed + ": " + what, Check.answerOf(ofModel), Check.answerOf(ofClass));
    }

    private int upTo(int most) {
        return random.nextInt(most + 1);
    }

    /** Mostly from 0 on below a bound, at times just outside, now and then far outside. */
    private int near(int bound) {
        int dice = random.nextInt(60);
        if (dice == 0) {
            return new int[] {Integer.MIN_VALUE, Integer.MAX_VALUE, -1, bound, bound + 1}[random.nextInt(5)];
        }
        return bound <= 0 ? random.nextInt(2) - 1 : random.nextInt(bound);
    }

    private String columnText() {
        StringBuilder text = new StringBuilder();
        text.append(blank()).append(random.nextBoolean() ? "range" : "equal");
        int components = 1 + random.nextInt(random.nextInt(8) == 0 ? 5 : 4);
        long product = 1;
        for (int i = 0; i < components; i++) {
            int base = wide ? 2 + random.nextInt(199) : 2 + random.nextInt(1 + random.nextInt(12));
            product *= base;
            text.append(i == 0 ? "" : blank() + "x").append(blank()).append(base);
        }
        int most = (int) Math.min(product, 200);
        int card = random.nextInt(3) == 0 ? most : 2 + random.nextInt(Math.max(1, most - 1));
        text.append(blank()).append("of").append(blank()).append(card).append(blank());
        return random.nextInt(4) == 0 ? spoilt(text.toString()) : text.toString();
    }

    private String blank() {
        return random.nextInt(4) == 0 ? "  ".substring(random.nextInt(3)) : "";
    }

    private String spoilt(String text) {
        StringBuilder spoilt = new StringBuilder(text);
        int times = 1 + random.nextInt(2);
        for (int i = 0; i < times; i++) {
            int at = random.nextInt(spoilt.length() + 1);
            String signs = "(),0123456789 abcefglnortuvxX\0\u00ff\t-+";
            char sign = signs.charAt(random.nextInt(signs.length()));
            int dice = random.nextInt(4);
            if (dice == 0 || at == spoilt.length()) {
                spoilt.insert(at, sign);
            } else if (dice == 1) {
                spoilt.deleteCharAt(at);
            } else if (dice == 2) {
                spoilt.setCharAt(at, sign);
            } else {
                spoilt.setLength(at);
            }
        }
        return spoilt.toString();
    }

    private String question(int open) {
        int dice = random.nextInt(open >= 4 ? 12 : 18);
        int card = Math.max(2, columnCard());
        if (dice < 9) {
            String[] names = {"le", "lt", "ge", "gt", "eq", "ne"};
            return call(names[random.nextInt(6)], number(m.told(0)), number(card + 2));
        }
        if (dice < 10) {
            return call("in", number(m.told(0)), number(card + 2), number(card + 2));
        }
        if (dice < 12) {
            return random.nextInt(3) > 0 ? call("result", number(6)) : call(random.nextBoolean() ? "all" : "none");
        }
        if (dice < 13) {
            return call("not", question(open + 1));
        }
        if (dice < 15) {
            return call(random.nextBoolean() ? "xor" : "less", question(open + 1), question(open + 1));
        }
        String[] parts = new String[2 + random.nextInt(random.nextInt(10) == 0 ? 4 : 3)];
        for (int i = 0; i < parts.length; i++) {
            parts[i] = question(open + 1);
        }
        return call(random.nextBoolean() ? "and" : "or", parts);
    }

    private int columnCard() {
        return m.told(0) == 0 ? 2 : m.columnOf(random.nextInt(m.told(0)), 0);
    }

    private String number(int bound) {
        int n = random.nextInt(40) == 0 ? random.nextInt(1100) : random.nextInt(Math.max(1, bound));
        return blank() + (random.nextInt(30) == 0 ? "00" : "") + n + blank();
    }

    private String call(String name, String... parts) {
        return blank() + name + blank() + "(" + String.join(",", parts) + blank() + ")" + blank();
    }

    private byte[] loadedWords() {
        int groups = m.told(3);
        boolean[] bits = new boolean[m.told(1)];
        int row = 0;
        boolean on = random.nextBoolean();
        while (row < bits.length) {
            int length = 1 + random.nextInt(random.nextBoolean() ? 5 : 60);
            for (int i = 0; i < length && row < bits.length; i++) {
                bits[row++] = on;
            }
            on = !on;
        }
        int[] words = Model.wordsOf(bits).stream().mapToInt(w -> w).toArray();
        if (words.length > 0 && random.nextInt(3) == 0) {
            int[] odd = {0, 32767, 32768, 49152, 32769, 49153, 1, 32768 + groups, 49152 + groups, random.nextInt(65536)};
            words[random.nextInt(words.length)] = odd[random.nextInt(odd.length)];
        }
        byte[] bytes = Check.bytesOfWords(words);
        int dice = random.nextInt(12);
        int length = dice == 0 && bytes.length > 0 ? bytes.length - 1 - random.nextInt(Math.min(2, bytes.length)) : dice == 1 ? bytes.length + 2 : bytes.length;
        return java.util.Arrays.copyOf(bytes, length);
    }

    private void put(byte[] bytes) {
        for (int from = 0; from < bytes.length; from += 20) {
            int[] n = Check.numbersAt(bytes, from);
            same("feed", () -> m.feed(n), () -> x.feed(n[0], n[1], n[2], n[3], n[4]));
        }
    }

    private void columnCall(String text) {
        put(Check.bytesOf(text));
        int n = text.length();
        same("column '" + text + "'", () -> m.column(n), () -> x.column(n));
        same("fault()", m::fault, x::fault);
    }

    private void askCall(String text, int result) {
        put(Check.bytesOf(text));
        int n = text.length() + (random.nextInt(50) == 0 ? random.nextInt(3) - 1 : 0);
        same("ask " + result + " '" + text + "'", () -> m.ask(result, n), () -> x.ask(result, n));
        same("fault()", m::fault, x::fault);
        for (int what = 0; what < 3; what++) {
            int w = what;
            same("cost(" + w + ")", () -> m.cost(w), () -> x.cost(w));
        }
    }

    private void loadCall(int result) {
        byte[] bytes = loadedWords();
        put(bytes);
        int n = bytes.length;
        same("load " + result, () -> m.load(result, n), () -> x.load(result, n));
        same("fault()", m::fault, x::fault);
    }

    private void call() {
        int dice = random.nextInt(100);
        if (dice < 22) {
            changeRows();
        } else if (dice < 36) {
            changeResults();
        } else if (dice < 60) {
            askState();
        } else if (dice < 80) {
            askResults();
        } else {
            askValues();
        }
    }

    private void changeRows() {
        int a = near(columnBound(0));
        int b = near(columnBound(1));
        int c = near(columnBound(2));
        int d = near(columnBound(3));
        int dice = random.nextInt(40);
        if (dice < 18) {
            same("add", () -> m.add(a, b, c, d), () -> x.add(a, b, c, d));
        } else if (dice < 27) {
            int n = random.nextInt(12) == 0 ? random.nextInt(410) - 2 : 1 + random.nextInt(50);
            same("many " + n, () -> m.many(n, a, b, c, d), () -> x.many(n, a, b, c, d));
        } else if (dice < 36) {
            int row = near(m.told(1));
            same("delete " + row, () -> m.delete(row), () -> x.delete(row));
        } else if (dice < 38) {
            same("close()", m::close, x::close);
        } else {
            columnCall(columnText());
        }
    }

    private int columnBound(int c) {
        return c < m.told(0) ? m.columnOf(c, 0) : 3;
    }

    private void changeResults() {
        int r = near(6);
        int first = near(6);
        int second = near(6);
        int kind = near(4);
        int dice = random.nextInt(20);
        if (dice < 10) {
            String text = question(0);
            String cut = text.length() > 200 ? question(3) : text;
            askCall(random.nextInt(5) == 0 ? spoilt(cut) : cut, r);
        } else if (dice < 14) {
            loadCall(r);
        } else if (dice < 18) {
            same("logic " + kind + " " + first + " " + second + " " + r, () -> m.logic(kind, first, second, r), () -> x.logic(kind, first, second, r));
        } else if (dice < 19) {
            same("turn " + r, () -> m.turn(r), () -> x.turn(r));
        } else {
            int a = random.nextInt();
            same("feed", () -> m.feed(a, a, a, a, a), () -> x.feed(a, a, a, a, a));
        }
    }

    private void askState() {
        int c = near(m.told(0));
        int component = 1 + near(3);
        int j = near(6);
        int what = near(6);
        int k = near(10);
        switch (random.nextInt(6)) {
            case 0: same("told " + what, () -> m.told(what), () -> x.told(what)); break;
            case 1: same("columnOf " + c + " " + what, () -> m.columnOf(c, what), () -> x.columnOf(c, what)); break;
            case 2: same("base", () -> m.base(c, component), () -> x.base(c, component)); break;
            case 3: same("index " + c + " " + component + " " + j + " " + what, () -> m.index(c, component, j, what), () -> x.index(c, component, j, what)); break;
            case 4: same("indexWord", () -> m.indexWord(c, component, j, k), () -> x.indexWord(c, component, j, k)); break;
            default: same("cost", () -> m.cost(what), () -> x.cost(what)); break;
        }
    }

    private void askResults() {
        int r = near(7);
        int other = near(7);
        int what = near(8);
        int row = near(m.told(1) + 1);
        int k = near(m.told(3) + 1);
        int kind = near(4);
        int third = near(3);
        switch (random.nextInt(11)) {
            case 0: same("result " + r + " " + what, () -> m.result(r, what), () -> x.result(r, what)); break;
            case 1: same("word " + r + " " + k, () -> m.word(r, k), () -> x.word(r, k)); break;
            case 2: same("has " + r + " " + row, () -> m.has(r, row), () -> x.has(r, row)); break;
            case 3: same("rank " + r + " " + row, () -> m.rank(r, row), () -> x.rank(r, row)); break;
            case 4: same("select " + r + " " + row, () -> m.select(r, row), () -> x.select(r, row)); break;
            case 5: same("next " + r + " " + row, () -> m.next(r, row), () -> x.next(r, row)); break;
            case 6: same("would " + kind + " " + r + " " + other + " " + third, () -> m.would(kind, r, other, third), () -> x.would(kind, r, other, third)); break;
            case 7: same("within " + r + " " + other, () -> m.within(r, other), () -> x.within(r, other)); break;
            case 8: same("differ " + r + " " + other, () -> m.differ(r, other), () -> x.differ(r, other)); break;
            case 9: same("group " + r + " " + k + " " + third, () -> m.group(r, k, third), () -> x.group(r, k, third)); break;
            default: same("widest " + r, () -> m.widest(r), () -> x.widest(r)); break;
        }
    }

    private void askValues() {
        int c = near(m.told(0));
        int by = near(m.told(0));
        int r = near(7);
        int row = near(m.told(1) + 1);
        int two = near(2);
        int kind = near(6);
        int n = random.nextInt(20) == 0 ? near(1000) : near(columnBound(Math.max(0, Math.min(3, c))) + 2);
        int high = random.nextInt(20) == 0 ? near(1000) : near(200);
        int third = near(3);
        switch (random.nextInt(10)) {
            case 0: same("value " + c + " " + row, () -> m.value(c, row), () -> x.value(c, row)); break;
            case 1: same("sum " + c + " " + r, () -> m.sum(c, r), () -> x.sum(c, r)); break;
            case 2: same("kth " + c + " " + r + " " + row, () -> m.kth(c, r, row), () -> x.kth(c, r, row)); break;
            case 3: same("mode " + c + " " + r + " " + two, () -> m.mode(c, r, two), () -> x.mode(c, r, two)); break;
            case 4: same("unlike " + c + " " + r, () -> m.unlike(c, r), () -> x.unlike(c, r)); break;
            case 5: same("span " + c + " " + r + " " + n + " " + high, () -> m.span(c, r, n, high), () -> x.span(c, r, n, high)); break;
            case 6: same("foretold " + kind + " " + c + " " + n + " " + third, () -> m.foretold(kind, c, n, third), () -> x.foretold(kind, c, n, third)); break;
            case 7: same("heaviest " + c + " " + two, () -> m.heaviest(c, two), () -> x.heaviest(c, two)); break;
            case 8: same("ordered " + c + " " + by, () -> m.ordered(c, by), () -> x.ordered(c, by)); break;
            default: if (!wide) {
                same("readings " + c + " " + two, () -> m.readings(c, two), () -> x.readings(c, two));
            }
        }
    }

    private void compareState() {
        for (int what = -1; what <= 3; what++) {
            int w = what;
            same("status(" + w + ")", () -> m.status(w), () -> x.status(w));
        }
        for (int what = 0; what <= 6; what++) {
            int w = what;
            same("told(" + w + ")", () -> m.told(w), () -> x.told(w));
        }
        for (int r = 0; r <= 6; r++) {
            int result = r;
            same("rows of result " + r, () -> m.result(result, 0), () -> x.result(result, 0));
            same("words of result " + r, () -> m.result(result, 1), () -> x.result(result, 1));
        }
        same("fault()", m::fault, x::fault);
    }
}
