import java.io.IOException;

/** The edges that the document's promises name, promise by promise and sentence by sentence. */
public final class CallsEdgesTest {
    private static final String NSEE = "NoSuchElementException";
    private static final String IAE = "IllegalArgumentException";
    private static final String ISE = "IllegalStateException";
    private static final int LOW = Integer.MIN_VALUE;
    private static final int HIGH = Integer.MAX_VALUE;
    private static final int ZERO = 32768;
    private static final int ONE = 49152;

    private static Document document;
    private static int promise = 0;

    private static void says(String sentence) {
        document.says(promise, sentence);
    }

    private static void due(String what, Object want, Check.Call call) {
        document.due(what, want, call);
    }

    public static void main(String[] args) throws IOException {
        document = new Document();
        newObject();
        tape();
        columns();
        added();
        addedAlike();
        deleted();
        closed();
        asked();
        loaded();
        faultsOfWords();
        fault();
        logic();
        turned();
        told();
        columnsTold();
        bases();
        bitmapsTold();
        bitmapWords();
        resultsTold();
        resultWords();
        had();
        ranks();
        selected();
        nexts();
        would();
        within();
        cost();
        values();
        sums();
        kths();
        modes();
        unlike();
        spans();
        foretold();
        differ();
        groups();
        widest();
        heaviest();
        ordered();
        readings();
        thrift();
        swift();
        status();
        document.needAllPromises();
        Check.end("CallsEdgesTest");
    }

    /** 40 rows, so that the last group has ten of them; result 0 is a fill of 0, a literal, and ten rows of 1. */
    private static AlignedRuns forty() {
        AlignedRuns x = Made.rows(40);
        Made.load(x, 0, ZERO + 1, 0x4001, 1023);
        return x;
    }

    private static AlignedRuns fullOfRows() {
        return Made.rows(1500);
    }

    private static void newObject() {
        promise = 1;
        says("No COLUMNS, no ROWS.");
        due("NONE", -1, () -> AlignedRuns.NONE);
        AlignedRuns x = new AlignedRuns();
        for (int what = 0; what <= 6; what++) {
            int w = what;
            due("told " + w, 0, () -> x.told(w));
        }
        due("fault", -1, x::fault);
        due("status 0", 0, () -> x.status(0));
        due("status 1", 0, () -> x.status(1));
        due("status 2", 0, () -> x.status(2));
        due("cost", 0, () -> x.cost(2));
        due("column 0", NSEE, () -> x.columnOf(0, 0));
        due("value", NSEE, () -> x.value(0, 0));
        due("row 0", NSEE, () -> x.has(6, 0));
        due("LIVE's words", 0, () -> x.result(6, 1));
        due("a result's first row", -1, () -> x.result(5, 4));
        due("a result's last row", -1, () -> x.result(5, 5));
        due("its rows of rows", 0, () -> x.result(5, 6));
        due("its longest", 0, () -> x.result(5, 7));
        due("its widest fill", 0, () -> x.widest(5));
        due("turned", 0, () -> x.turn(5));
        due("logic", 0, () -> x.logic(1, 0, 1, 2));
        due("closed up", 0, x::close);
        due("loaded", 0, () -> x.load(0, 0));
        due("a row without columns", 0, () -> x.add(LOW, HIGH, -1, 200));
        AlignedRuns other = new AlignedRuns();
        due("another object has none of them", 0, () -> other.told(1));
    }

    private static void tape() {
        promise = 2;
        says("Twenty bytes come on the TAPE, of each number the highest first: how many there are");
        AlignedRuns x = Made.rows(150);
        due("twenty", 20, () -> x.feed(0x00010002, 0x00030004, 0x7FFE4000, 0x3FFF0005, 0x00060007));
        due("their words", 41, () -> x.load(0, 20));
        int[] words = {1, 2, 3, 4, 0x7FFE, 0x4000, 0x3FFF, 5, 6, 7};
        for (int k = 0; k < words.length; k++) {
            int at = k;
            due("word " + at, words[at], () -> x.word(0, at));
        }
        due("numbers below 0", 20, () -> x.feed(-2147483638, -1, -1, -1, -1));
        due("their bytes", -7, () -> x.load(0, 2));
        x.feed(ZERO + 10 << 16, 0, 0, 0, 0);
        due("a high word", 0, () -> x.load(0, 2));
        x.feed(ONE + 10 << 16, 0, 0, 0, 0);
        due("a higher one", 150, () -> x.load(0, 2));
        says("NONE, doing nothing, if there would be more than 400.");
        AlignedRuns y = Made.small();
        Check.put(y, Check.bytesOf("all()" + " ".repeat(375)));
        due("380", 380, () -> y.told(6));
        due("400", 400, () -> y.feed(0, 0, 0, 0, 0));
        due("420", -1, () -> y.feed(-1, -1, -1, -1, -1));
        due("still 400", 400, () -> y.told(6));
        due("again", -1, () -> y.feed(-1, -1, -1, -1, -1));
        due("what came first is there", 5, () -> y.ask(0, 200));
        due("empty", 0, () -> y.told(6));
        due("and takes again", 20, () -> y.feed(0, 0, 0, 0, 0));
        due("no refusal", 0, () -> y.status(1));
    }

    private static void columns() {
        promise = 3;
        says("The first n bytes of the TAPE (empty then) are a COLUMN: its number; or the FAULT less 10 (all but the TAPE stays).");
        AlignedRuns x = new AlignedRuns();
        Check.put(x, Check.bytesOf("range 2 of 2 and what is more"));
        due("the first twelve", 0, () -> x.column(12));
        due("nothing is left", 0, () -> x.told(6));
        Check.put(x, Check.bytesOf("equal 2 of 22"));
        due("another twelve", 1, () -> x.column(12));
        due("card", 2, () -> x.columnOf(1, 0));
        Check.put(x, Check.bytesOf("equal 2 of 3, and more"));
        due("a fault", -6, () -> x.column(12));
        due("its place", 11, x::fault);
        due("nothing is left of it", 0, () -> x.told(6));
        due("columns stay", 2, () -> x.told(0));
        due("bitmaps stay", 3, () -> x.told(4));
        due("a fault is no refusal", 0, () -> x.status(1));
        cutColumn("range 2 of 2", 4, 1, 0);
        cutColumn("range 2 of 2", 6, 1, 6);
        cutColumn("range 2 of 2", 9, 1, 8);
        cutColumn("range 2 of 2", 11, 1, 11);
        cutColumn("range 20 of 20", 7, 1, 7);
        cutColumn("range 20 of 20", 13, -1, -1);
        cutColumn("range 2x2x2x2x2 of 3", 14, 1, 14);
        due("nothing at all", -9, () -> x.column(0));
        due("it is too early at 0", 0, x::fault);
        says("IllegalArgumentException: n is not 0 to 200, or more than the TAPE has (the TAPE stays).");
        Check.put(x, Check.bytesOf(" ".repeat(188) + "equal 3 of 3" + " ".repeat(20)));
        due("-1", IAE, () -> x.column(-1));
        due("201", IAE, () -> x.column(201));
        due("220", IAE, () -> x.column(220));
        due("221", IAE, () -> x.column(221));
        due("the tape", 220, () -> x.told(6));
        due("the fault's place", 0, x::fault);
        due("200", 2, () -> x.column(200));
        Check.put(x, Check.bytesOf("equal 4 of 4        "));
        due("21 of 20", IAE, () -> x.column(21));
        due("20 of 20", 3, () -> x.column(20));
        says("IllegalStateException: there are ROWS, or 4 COLUMNS (the TAPE stays).");
        Check.put(x, Check.bytesOf("equal 4 of 4        "));
        due("a fifth column", ISE, () -> x.column(12));
        due("the tape of it", 20, () -> x.told(6));
        due("the fault's place of it", -1, x::fault);
        AlignedRuns y = Made.with("equal 2 of 2");
        y.add(0, 0, 0, 0);
        Check.put(y, Check.bytesOf("equal 4 of 4        "));
        due("with a row", ISE, () -> y.column(12));
        y.delete(0);
        due("with a deleted row", ISE, () -> y.column(12));
        due("n first", IAE, () -> y.column(21));
        y.close();
        due("the tape stayed, and there are no rows", 1, () -> y.column(12));
    }

    /** A column's text of which just the first bytes are read; fault -1 for none. */
    private static void cutColumn(String text, int n, int fault, int place) {
        AlignedRuns x = new AlignedRuns();
        Check.put(x, Check.bytesOf(text));
        due(n + " bytes of '" + text + "'", fault < 0 ? 0 : fault - 10, () -> x.column(n));
        due("the place in " + n + " bytes of '" + text + "'", place, x::fault);
    }

    private static void cutQuestion(String text, int n, int fault, int place) {
        AlignedRuns x = Made.small();
        Check.put(x, Check.bytesOf(text));
        due(n + " bytes of '" + text + "'", fault - 10, () -> x.ask(0, n));
        due("the place in " + n + " bytes of '" + text + "'", place, x::fault);
    }

    private static void added() {
        promise = 4;
        says("A ROW more with these VALUES (of as many COLUMNS as there are; others are left out): its number.");
        AlignedRuns x = Made.with("range 7 of 5", "equal 2x3 of 6");
        due("the first", 0, () -> x.add(4, 5, -1, 200));
        due("the second", 1, () -> x.add(0, 0, LOW, HIGH));
        due("a value", 4, () -> x.value(0, 0));
        due("another", 5, () -> x.value(1, 0));
        due("a third column's", NSEE, () -> x.value(2, 0));
        due("without columns", 0, () -> new AlignedRuns().add(LOW, LOW, HIGH, HIGH));
        AlignedRuns four = Made.with("equal 3 of 3", "equal 4 of 4", "equal 5 of 5", "equal 6 of 6");
        due("with four columns", 0, () -> four.add(2, 3, 4, 5));
        for (int c = 0; c < 4; c++) {
            int column = c;
            due("value of column " + column, column + 2, () -> four.value(column, 0));
        }
        says("IllegalArgumentException: a VALUE of a COLUMN is not below its CARD, or below 0.");
        due("at the card", IAE, () -> x.add(5, 0, 0, 0));
        due("below the base only", IAE, () -> x.add(6, 0, 0, 0));
        due("below 0", IAE, () -> x.add(-1, 0, 0, 0));
        due("the other one at its card", IAE, () -> x.add(0, 6, 0, 0));
        due("the other one below 0", IAE, () -> x.add(0, -1, 0, 0));
        due("highest", IAE, () -> x.add(HIGH, 0, 0, 0));
        due("lowest", IAE, () -> x.add(0, LOW, 0, 0));
        due("the last of four at its card", IAE, () -> four.add(2, 3, 4, 6));
        due("the third of four at its card", IAE, () -> four.add(2, 3, 5, 5));
        due("rows stay", 2, () -> x.told(1));
        says("IllegalStateException: there are 1,500.");
        Made.grown(x, 1497);
        due("the last", 1499, () -> x.add(4, 5, 0, 0));
        due("one more", ISE, () -> x.add(0, 0, 0, 0));
        due("the value first", IAE, () -> x.add(5, 0, 0, 0));
        due("rows", 1500, () -> x.told(1));
        x.delete(3);
        due("a deleted one makes no room", ISE, () -> x.add(0, 0, 0, 0));
        x.close();
        due("closed up it does", 1499, () -> x.add(0, 0, 0, 0));
    }

    private static void addedAlike() {
        promise = 5;
        says("So many ROWS (1 to 400) alike: how many there are then.");
        AlignedRuns x = Made.with("range 3 of 3");
        due("one", 1, () -> x.many(1, 2, 0, 0, 0));
        due("400", 401, () -> x.many(400, 1, 0, 0, 0));
        due("0", IAE, () -> x.many(0, 0, 0, 0, 0));
        due("401", IAE, () -> x.many(401, 0, 0, 0, 0));
        due("-1", IAE, () -> x.many(-1, 0, 0, 0, 0));
        due("lowest", IAE, () -> x.many(LOW, 0, 0, 0, 0));
        due("highest", IAE, () -> x.many(HIGH, 0, 0, 0, 0));
        due("a value at its card", IAE, () -> x.many(1, 3, 0, 0, 0));
        due("a value below 0", IAE, () -> x.many(400, -1, 0, 0, 0));
        due("rows stay", 401, () -> x.told(1));
        due("the first's value", 2, () -> x.value(0, 0));
        due("the second's", 1, () -> x.value(0, 1));
        due("the last's", 1, () -> x.value(0, 400));
        due("others are left out", 404, () -> x.many(3, 0, LOW, HIGH, 200));
        says("IllegalStateException: there would be more than 1,500.");
        Made.grown(x, 696);
        due("401 more", IAE, () -> x.many(401, 0, 0, 0, 0));
        due("400 more of 1,100", 1500, () -> x.many(400, 2, 0, 0, 0));
        due("one more", ISE, () -> x.many(1, 0, 0, 0, 0));
        due("a value first", IAE, () -> x.many(1, 3, 0, 0, 0));
        due("no rows first", IAE, () -> x.many(0, 0, 0, 0, 0));
        AlignedRuns y = Made.rows(1101);
        due("400 more of 1,101", ISE, () -> y.many(400, 0, 0, 0, 0));
        due("none of them comes", 1101, () -> y.told(1));
        due("399 more of 1,101", 1500, () -> y.many(399, 0, 0, 0, 0));
    }

    private static void deleted() {
        promise = 6;
        says("A ROW is deleted (it stays in all BITMAPS but LIVE): how many are not.");
        AlignedRuns x = Made.runs();
        x.turn(0);
        due("the first", 64, () -> x.delete(0));
        due("the last", 63, () -> x.delete(64));
        due("rows", 65, () -> x.told(1));
        due("those that are not", 63, () -> x.told(2));
        due("it stays in a bitmap", 0, () -> x.index(0, 1, 0, 4));
        due("the last, too", 64, () -> x.index(0, 1, 0, 5));
        due("it stays in a result", true, () -> x.has(0, 64));
        due("it is not in LIVE", false, () -> x.has(6, 64));
        due("its value stays", 0, () -> x.value(0, 64));
        says("NoSuchElementException: no such ROW, COLUMN, COMPONENT, BITMAP, RESULT, WORD (so below, ahead of others); one that is deleted.");
        due("deleted before", NSEE, () -> x.delete(0));
        due("deleted before, the last", NSEE, () -> x.delete(64));
        due("65", NSEE, () -> x.delete(65));
        due("-1", NSEE, () -> x.delete(-1));
        due("lowest", NSEE, () -> x.delete(LOW));
        due("highest", NSEE, () -> x.delete(HIGH));
        due("none of them counts", 63, () -> x.told(2));
        AlignedRuns one = Made.rows(1);
        due("the only one", 0, () -> one.delete(0));
        due("no second time", NSEE, () -> one.delete(0));
        due("1,500", NSEE, () -> fullOfRows().delete(1500));
        due("1,499", 1499, () -> fullOfRows().delete(1499));
    }

    private static void closed() {
        promise = 7;
        says("Deleted ROWS are no more, in all BITMAPS; those behind them have lesser numbers: how many there were.");
        AlignedRuns x = forty();
        due("none is deleted", 0, x::close);
        due("all stay", 40, () -> x.told(1));
        x.delete(0);
        x.delete(15);
        x.delete(39);
        due("three", 3, x::close);
        due("rows", 37, () -> x.told(1));
        due("LIVE", 127, () -> x.word(6, 1));
        due("a row of a result is two less", 27, () -> x.select(0, 0));
        due("its rows", 10, () -> x.result(0, 0));
        due("the row at its end is no more", 36, () -> x.result(0, 5));
        due("37", NSEE, () -> x.has(0, 37));
        due("no second time", 0, x::close);
        keptWhereTheyAre();
        AlignedRuns y = Made.with("range 3x2 of 6");
        for (int i = 0; i < 32; i++) {
            y.add(i % 6, 0, 0, 0);
        }
        for (int i = 0; i < 32; i += 2) {
            y.delete(i);
        }
        due("each second one", 16, y::close);
        for (int i = 0; i < 16; i++) {
            int row = i;
            due("value of " + row, (2 * row + 1) % 6, () -> y.value(0, row));
        }
        due("bitmap 0 of digit 1", 0b010010010010010, () -> y.indexWord(0, 1, 0, 0));
        due("bitmap 1 of digit 1", 0b011011011011011, () -> y.indexWord(0, 1, 1, 0));
        due("bitmap 0 of digit 2", 0b001001001001001, () -> y.indexWord(0, 2, 0, 0));
        due("its next group", 1, () -> y.indexWord(0, 2, 0, 1));
        due("a group less", 2, () -> y.told(3));
        y.delete(15);
        due("one more", 1, y::close);
        due("just one group", 1, () -> y.told(3));
        due("a fill", ONE + 1, () -> y.word(6, 0));
        AlignedRuns all = Made.rows(31);
        all.turn(3);
        for (int row = 30; row >= 0; row--) {
            all.delete(row);
        }
        due("all of them", 31, all::close);
        due("no rows", 0, () -> all.told(1));
        due("no words", 0, () -> all.result(3, 1));
        due("nothing in it", 0, () -> all.result(3, 0));
        due("nothing to close", 0, all::close);
        due("rows come anew from 0 on", 0, () -> all.add(0, 0, 0, 0));
        due("not in the result", false, () -> all.has(3, 0));
        AlignedRuns full = fullOfRows();
        full.delete(0);
        full.delete(1499);
        due("two of 1,500", 2, full::close);
        due("98 left behind the fill", 99, () -> full.group(6, 0, 1));
        due("the last group's rows", 13, () -> full.rank(6, 1498) - full.rank(6, 1485));
    }

    /** Rows ahead of the first deleted one stay where they are, in each result and each bitmap. */
    private static void keptWhereTheyAre() {
        AlignedRuns x = Made.with("equal 2 of 2");
        for (int i = 0; i < 35; i++) {
            x.add(i % 7 == 0 ? 1 : 0, 0, 0, 0);
        }
        for (int r = 0; r <= 5; r++) {
            Made.load(x, r, 1 + (4 << r), ZERO + 1, 16);
        }
        x.delete(1);
        x.delete(20);
        due("two of 35", 2, x::close);
        for (int r = 0; r <= 5; r++) {
            int result = r;
            due("row 0 of result " + result, true, () -> x.has(result, 0));
            due("the row behind row 1 of result " + result, result + 1, () -> x.next(result, 1));
            due("the last row of result " + result, 32, () -> x.result(result, 5));
            due("rows of result " + result, 3, () -> x.result(result, 0));
        }
        due("a bitmap's first group", 1 + (1 << 6) + (1 << 13), () -> x.indexWord(0, 1, 1, 0));
        due("its second one", (1 << 4) + (1 << 11), () -> x.indexWord(0, 1, 1, 1));
        due("its last one", ZERO + 1, () -> x.indexWord(0, 1, 1, 2));
        AlignedRuns fewer = Made.rows(31);
        fewer.would(1, 6, 6, 0);
        fewer.delete(30);
        fewer.delete(29);
        fewer.close();
        due("loaded with fewer rows than before", 0, () -> Made.load(fewer, 0, ZERO + 2));
        due("no last row", -1, () -> fewer.result(0, 5));
        due("a row more", 29, () -> fewer.add(0, 0, 0, 0));
        due("is not in it", false, () -> fewer.has(0, 29));
    }

    private static void asked() {
        promise = 8;
        says("The first n bytes of the TAPE (empty then) are a QUESTION, whose answer is a RESULT from now on: how many ROWS; "
            + "or the FAULT less 10 (all but the TAPE stays).");
        AlignedRuns x = Made.small();
        Check.put(x, Check.bytesOf("all() and more"));
        due("the first five", 5, () -> x.ask(5, 5));
        due("nothing is left", 0, () -> x.told(6));
        due("the result", 31, () -> x.word(5, 0));
        due("no other one", ZERO + 1, () -> x.word(4, 0));
        Check.put(x, Check.bytesOf("none() and more"));
        due("a fault", -9, () -> x.ask(5, 10));
        due("its place", 7, x::fault);
        due("nothing is left of it", 0, () -> x.told(6));
        due("the result stays", 31, () -> x.word(5, 0));
        due("the cost stays", 1, () -> x.cost(0));
        due("a fault is no refusal", 0, () -> x.status(1));
        Check.put(x, Check.bytesOf("result(5)"));
        due("a result of itself", 5, () -> x.ask(5, 9));
        Check.put(x, Check.bytesOf("not(result(5))"));
        due("a result of itself, turned", 0, () -> x.ask(5, 14));
        due("is it from now on", ZERO + 1, () -> x.word(5, 0));
        cutQuestion("all()", 2, 1, 0);
        cutQuestion("all()", 3, 1, 3);
        cutQuestion("all()", 4, 1, 4);
        cutQuestion("le(0,5)", 3, 1, 3);
        cutQuestion("le(0,5)", 4, 1, 4);
        cutQuestion("le(0,5)", 5, 1, 5);
        cutQuestion("le(0,5)", 6, 1, 6);
        cutQuestion("not(not(not(not(not(all())))))", 23, 1, 23);
        cutQuestion("and(all(),all(),all(),all(),all())", 27, 1, 27);
        due("nothing at all", -9, () -> x.ask(0, 0));
        says("IllegalArgumentException: n is not 0 to 200, or more than the TAPE has (the TAPE stays).");
        Check.put(x, Check.bytesOf(" ".repeat(195) + "all()" + " ".repeat(20)));
        due("-1", IAE, () -> x.ask(0, -1));
        due("201", IAE, () -> x.ask(0, 201));
        due("220", IAE, () -> x.ask(0, 220));
        due("221", IAE, () -> x.ask(0, 221));
        due("no such result", NSEE, () -> x.ask(6, 5));
        due("no such result, ahead of n", NSEE, () -> x.ask(-1, 221));
        due("the tape", 220, () -> x.told(6));
        due("200", 5, () -> x.ask(0, 200));
        Check.put(x, Check.bytesOf("all()               "));
        due("21 of 20", IAE, () -> x.ask(0, 21));
        due("20 of 20", 5, () -> x.ask(0, 20));
        due("1 of none", IAE, () -> x.ask(0, 1));
    }

    private static void loaded() {
        promise = 9;
        says("The first n bytes of the TAPE (empty then), two for each, the higher one first, are the WORDS of a RESULT from now on: "
            + "how many ROWS; or the FAULT less 10 (all but the TAPE stays).");
        AlignedRuns x = Made.rows(40);
        x.feed(0x80014001, 0x03FF0000, 0, 0, 0);
        due("six of them", 12, () -> x.load(5, 6));
        due("nothing is left", 0, () -> x.told(6));
        due("the first row", 15, () -> x.result(5, 4));
        due("the last row", 39, () -> x.result(5, 5));
        x.feed(0x80014001, 0x04000000, 0, 0, 0);
        due("a fault", -4, () -> x.load(5, 6));
        due("its place", 4, x::fault);
        due("nothing is left of it", 0, () -> x.told(6));
        due("the result stays", 12, () -> x.result(5, 0));
        due("a fault is no refusal", 0, () -> x.status(1));
        says("IllegalArgumentException: n is not 0 to the TAPE's bytes (it stays).");
        x.feed(ZERO + 3 << 16, 0, 0, 0, 0);
        due("21 of 20", IAE, () -> x.load(0, 21));
        due("-1", IAE, () -> x.load(0, -1));
        due("lowest", IAE, () -> x.load(0, LOW));
        due("highest", IAE, () -> x.load(0, HIGH));
        due("no such result", NSEE, () -> x.load(6, 2));
        due("no such result, ahead of n", NSEE, () -> x.load(-1, 21));
        due("the tape", 20, () -> x.told(6));
        due("20 of 20: a group that is not", -8, () -> x.load(5, 20));
        due("behind the first word", 2, x::fault);
        due("0 of none", -3, () -> x.load(5, 0));
        due("at 0", 0, x::fault);
        due("1 of none", IAE, () -> x.load(5, 1));
        AlignedRuns full = fullOfRows();
        for (int i = 0; i < 20; i++) {
            full.feed(0x00010002, 0x00030004, 0x00050006, 0x00070008, 0x0009000A);
        }
        due("401 of 400", IAE, () -> full.load(0, 401));
        due("400 of 400: more than there are", -5, () -> full.load(0, 400));
        due("at the 101st", 200, full::fault);
        for (int i = 0; i < 20; i++) {
            full.feed(0x00010002, 0x00030004, 0x00050006, 0x00070008, 0x0009000A);
        }
        due("201 of 400: an odd one", -9, () -> full.load(0, 201));
        due("at its byte", 200, full::fault);
        for (int i = 0; i < 10; i++) {
            full.feed(0x00010002, 0x00030004, 0x00050006, 0x00070008, 0x0009000A);
        }
        due("200 of 200: a hundred literals", 170, () -> full.load(0, 200));
        due("all of them", 100, () -> full.result(0, 2));
    }

    private static void faulty(int rows, int fault, int place, int... words) {
        AlignedRuns x = Made.rows(rows);
        x.turn(3);
        String what = rows + " rows, words " + java.util.Arrays.toString(words);
        due(what, fault - 10, () -> Made.load(x, 3, words));
        due("the place, " + what, place, x::fault);
        due("the result stays, " + what, rows, () -> x.result(3, 0));
        due("the tape is empty, " + what, 0, () -> x.told(6));
    }

    private static void taken(int rows, int have, int... words) {
        AlignedRuns x = Made.rows(rows);
        String what = rows + " rows, words " + java.util.Arrays.toString(words);
        due(what, have, () -> Made.load(x, 3, words));
        due("no fault, " + what, -1, x::fault);
        for (int k = 0; k < words.length; k++) {
            int at = k;
            due("word " + at + " of " + what, words[at], () -> x.word(3, at));
        }
        due("how many words, " + what, words.length, () -> x.result(3, 1));
    }

    private static void oddBytes(int rows, int fault, int place, int... bytes) {
        AlignedRuns x = Made.rows(rows);
        byte[] put = new byte[bytes.length];
        for (int i = 0; i < put.length; i++) {
            put[i] = (byte) bytes[i];
        }
        Check.put(x, put);
        String what = rows + " rows, bytes " + java.util.Arrays.toString(bytes);
        due(what, fault - 10, () -> x.load(0, put.length));
        due("the place, " + what, place, x::fault);
    }

    private static void faultsOfWords() {
        says("FAULTS, the first from the left, at the first byte of its WORD, of one WORD the least: 1 a WORD of one byte");
        oddBytes(30, 1, 0, 0x80);
        oddBytes(30, 1, 2, 0x80, 1, 0x80);
        oddBytes(30, 1, 2, 0x80, 2, 0);
        oddBytes(0, 1, 0, 1);
        oddBytes(30, 2, 0, 0, 0, 0);
        oddBytes(30, 5, 0, 0x80, 3, 0);
        says("2 a LITERAL of 0, or 32,767");
        faulty(30, 2, 0, 0);
        faulty(30, 2, 0, 32767);
        faulty(30, 2, 2, 1, 0);
        faulty(30, 2, 2, 1, 32767);
        faulty(30, 2, 4, ZERO + 1, 1, 0);
        faulty(30, 2, 2, ZERO + 2, 32767);
        faulty(20, 2, 2, 1, 32767);
        taken(30, 15, 1, 32766);
        taken(15, 14, 32766);
        taken(15, 1, 1);
        says("3 a FILL of no GROUPS");
        faulty(30, 3, 0, ZERO);
        faulty(30, 3, 0, ONE);
        faulty(30, 3, 2, ZERO + 1, ZERO);
        faulty(30, 3, 2, ONE + 2, ONE);
        faulty(0, 3, 0, ZERO);
        taken(15, 0, ZERO + 1);
        taken(15, 15, ONE + 1);
        says("4 a FILL behind one alike");
        faulty(30, 4, 2, ZERO + 1, ZERO + 1);
        faulty(30, 4, 2, ONE + 1, ONE + 1);
        faulty(30, 4, 2, ONE + 2, ONE + 1);
        faulty(30, 4, 2, ZERO + 1, ZERO + 9);
        faulty(45, 4, 4, 7, ZERO + 1, ZERO + 1);
        taken(30, 15, ZERO + 1, ONE + 1);
        taken(30, 15, ONE + 1, ZERO + 1);
        taken(45, 1, ZERO + 1, 8, ZERO + 1);
        taken(45, 31, ONE + 1, 8, ONE + 1);
        says("5 a GROUP that there is not");
        faulty(30, 5, 0, ZERO + 3);
        faulty(30, 5, 0, ONE + 3);
        faulty(30, 5, 0, ZERO + 16383);
        faulty(30, 5, 0, ONE + 16383);
        faulty(30, 5, 2, ZERO + 2, 1);
        faulty(30, 5, 2, ZERO + 1, ONE + 2);
        faulty(30, 5, 4, 1, 1, 1);
        faulty(0, 5, 0, 1);
        faulty(0, 5, 0, ZERO + 1);
        faulty(20, 5, 0, ONE + 3);
        faulty(1500, 5, 0, ZERO + 101);
        faulty(1500, 5, 2, ZERO + 100, 1);
        taken(1500, 0, ZERO + 100);
        taken(1500, 1500, ONE + 100);
        taken(30, 0, ZERO + 2);
        says("6 a last GROUP of fewer than 15 ROWS in a FILL of 1, or with other bits");
        faulty(20, 6, 0, ONE + 2);
        faulty(20, 6, 2, ZERO + 1, ONE + 1);
        faulty(20, 6, 2, ZERO + 1, 32);
        faulty(20, 6, 2, ZERO + 1, 33);
        faulty(20, 6, 2, ZERO + 1, 16384);
        faulty(20, 6, 2, ZERO + 1, 32766);
        faulty(1, 6, 0, ONE + 1);
        faulty(1, 6, 0, 2);
        faulty(14, 6, 0, 16384);
        faulty(16, 6, 2, ONE + 1, 3);
        taken(20, 5, ZERO + 1, 31);
        taken(20, 1, ZERO + 1, 16);
        taken(20, 0, ZERO + 2);
        taken(20, 15, ONE + 1, ZERO + 1);
        taken(1, 1, 1);
        taken(14, 14, 16383);
        taken(14, 1, 8192);
        taken(30, 1, ZERO + 1, 16384);
        taken(30, 30, ONE + 2);
        taken(29, 1, 16384, ZERO + 1);
        says("7 (at n) GROUPS are missing.");
        faulty(30, 7, 0);
        faulty(1, 7, 0);
        faulty(30, 7, 2, 1);
        faulty(30, 7, 2, ZERO + 1);
        faulty(30, 7, 2, ONE + 1);
        faulty(20, 7, 2, ONE + 1);
        faulty(1500, 7, 2, ZERO + 99);
        faulty(1500, 7, 4, ZERO + 98, 1);
        taken(0, 0);
        says("of one WORD the least");
        faulty(30, 3, 2, ZERO + 2, ZERO);
        faulty(30, 4, 2, ZERO + 2, ZERO + 1);
        faulty(30, 2, 2, ZERO + 2, 0);
        faulty(20, 4, 2, ONE + 1, ONE + 1);
        faulty(20, 5, 2, ZERO + 2, ONE + 1);
        faulty(20, 5, 2, ZERO + 2, 32);
    }

    private static void fault() {
        promise = 10;
        says("The place of the FAULT of the latest of these three; NONE without.");
        AlignedRuns x = new AlignedRuns();
        due("of none", -1, x::fault);
        due("a column's", -8, () -> Made.column(x, "equal 1 of 2"));
        due("its place", 6, x::fault);
        due("a question's", -9, () -> Made.ask(x, 0, "all(("));
        due("its place ", 4, x::fault);
        due("words'", -5, () -> Made.load(x, 0, 1));
        due("their place", 0, x::fault);
        due("a column without", 0, () -> Made.column(x, "equal 2 of 2"));
        due("none", -1, x::fault);
        Made.column(x, "equal 2 of 3");
        due("a question without", 0, () -> Made.ask(x, 0, "all()"));
        due("none ", -1, x::fault);
        Made.ask(x, 0, "all( )  x");
        due("a question's again", 8, x::fault);
        due("words without", 0, () -> x.load(0, 0));
        due("none  ", -1, x::fault);
        Made.ask(x, 0, "all(");
        x.add(0, 0, 0, 0);
        due("a refused one", ISE, () -> x.column(0));
        due("another refused one", IAE, () -> x.ask(0, 1));
        due("a third", NSEE, () -> x.load(6, 0));
        x.foretold(0, 0, 0, 0);
        x.feed(0, 0, 0, 0, 0);
        x.turn(0);
        x.close();
        due("all these leave it", 4, x::fault);
    }

    private static void logic() {
        promise = 11;
        says("A RESULT is LOGIC (0 AND, 1 OR, 2 XOR, 3 LESS) of two RESULTS from now on: how many ROWS.");
        AlignedRuns x = Made.rows(34);
        Made.load(x, 0, ONE + 1, 5, 12);
        Made.load(x, 5, ZERO + 1, 6, 10);
        int[][] want = {{2, 0, 4, 8}, {21, 32767, 7, 14}, {19, 32767, 3, 6}, {17, 32767, 1, 4}};
        for (int kind = 0; kind < 4; kind++) {
            int k = kind;
            due("logic " + k, want[k][0], () -> x.logic(k, 0, 5, 3));
            for (int g = 0; g < 3; g++) {
                int at = g;
                due("group " + at + " of logic " + k, want[k][1 + at], () -> x.group(3, at, 0));
            }
        }
        due("LESS the other way round", 2, () -> x.logic(3, 5, 0, 3));
        due("the first stays", 19, () -> x.result(0, 0));
        due("the second stays", 4, () -> x.result(5, 0));
        due("of one and the same, to itself", 0, () -> x.logic(2, 5, 5, 5));
        due("is it from now on", ZERO + 3, () -> x.word(5, 0));
        due("to the second", 0, () -> x.logic(3, 5, 0, 0));
        due("is the second", 0, () -> x.result(0, 0));
        says("IllegalArgumentException: no such LOGIC.");
        Made.load(x, 0, ONE + 1, 5, 12);
        due("4", IAE, () -> x.logic(4, 0, 0, 0));
        due("-1", IAE, () -> x.logic(-1, 0, 0, 0));
        due("highest", IAE, () -> x.logic(HIGH, 0, 1, 2));
        due("lowest", IAE, () -> x.logic(LOW, 0, 1, 2));
        due("LIVE first", NSEE, () -> x.logic(0, 6, 0, 0));
        due("LIVE second", NSEE, () -> x.logic(0, 0, 6, 0));
        due("to LIVE", NSEE, () -> x.logic(0, 0, 0, 6));
        due("no such result ahead of no such logic", NSEE, () -> x.logic(4, 0, 0, 6));
        due("the result stays", 19, () -> x.result(0, 0));
    }

    private static void turned() {
        promise = 12;
        says("A RESULT is TURNED from now on: how many ROWS.");
        AlignedRuns x = forty();
        due("turned", 28, () -> x.turn(0));
        due("a fill", ONE + 1, () -> x.word(0, 0));
        due("a literal", 0x3FFE, () -> x.word(0, 1));
        due("a last group of 0", ZERO + 1, () -> x.word(0, 2));
        due("turned back", 12, () -> x.turn(0));
        due("a last group", 1023, () -> x.word(0, 2));
        due("none", 40, () -> x.turn(5));
        due("all", 0, () -> x.turn(5));
        due("LIVE", NSEE, () -> x.turn(6));
        due("-1", NSEE, () -> x.turn(-1));
        x.delete(39);
        due("deleted ones, too", 40, () -> x.turn(5));
        due("1,500", 1500, () -> fullOfRows().turn(0));
        due("no rows", 0, () -> new AlignedRuns().turn(0));
        due("one row", 1, () -> Made.rows(1).turn(0));
    }

    private static void told() {
        promise = 13;
        says("0 COLUMNS, 1 ROWS, 2 those that are not deleted, 3 GROUPS, 4 BITMAPS of all COLUMNS, 5 WORDS of these, 6 bytes of the TAPE.");
        AlignedRuns x = Made.with("range 3x2 of 6", "equal 2x4 of 8");
        x.many(15, 5, 7, 0, 0);
        x.many(16, 0, 0, 0, 0);
        x.delete(30);
        x.feed(0, 0, 0, 0, 0);
        // A bitmap is two fills (of 0 and 1, and a literal of one row, or a last group of 0), or one fill.
        int[] want = {2, 31, 30, 3, 9, 3 + 3 + 3 + 3 + 2 + 3 + 1 + 1 + 2, 20};
        for (int what = 0; what <= 6; what++) {
            int w = what;
            due("told " + w, want[w], () -> x.told(w));
        }
        due("as many bitmaps as in both", 9, () -> x.columnOf(0, 3) + x.columnOf(1, 3));
        due("as many words as in both", x.told(5), () -> x.columnOf(0, 4) + x.columnOf(1, 4));
        due("most bitmaps", 3200, () -> Made.with("equal 200x200x200x200 of 2", "equal 200x200x200x200 of 2",
            "equal 200x200x200x200 of 2", "equal 200x200x200x200 of 2").told(4));
        says("IllegalArgumentException: another what (so below).");
        due("7", IAE, () -> x.told(7));
        due("-1", IAE, () -> x.told(-1));
        due("highest", IAE, () -> x.told(HIGH));
        due("lowest", IAE, () -> x.told(LOW));
    }

    private static void columnsTold() {
        promise = 14;
        says("Of a COLUMN: 0 CARD, 1 COMPONENTS, 2 1 by \"range\", 0 by \"equal\", 3 its BITMAPS, 4 WORDS of these.");
        AlignedRuns x = Made.with("range 3x2 of 5", "equal 3x2 of 5", "range 2 of 2", "equal 2x2x2x2 of 16");
        int[][] want = {{5, 2, 1, 3, 0}, {5, 2, 0, 5, 0}, {2, 1, 1, 1, 0}, {16, 4, 0, 8, 0}};
        for (int c = 0; c < 4; c++) {
            for (int what = 0; what <= 4; what++) {
                int column = c;
                int w = what;
                due("of column " + column + ", " + w, want[column][w], () -> x.columnOf(column, w));
            }
        }
        x.many(16, 4, 4, 1, 15);
        int[] words = {1 + 2 + 1, 1 + 2 + 1 + 1 + 2, 1, 4 * (1 + 2)};
        for (int c = 0; c < 4; c++) {
            int column = c;
            due("words of column " + column, words[column], () -> x.columnOf(column, 4));
        }
        due("column 4", NSEE, () -> x.columnOf(4, 0));
        due("column -1", NSEE, () -> x.columnOf(-1, 0));
        due("what 5", IAE, () -> x.columnOf(3, 5));
        due("what -1", IAE, () -> x.columnOf(0, -1));
        due("the column first", NSEE, () -> x.columnOf(4, 5));
    }

    private static void bases() {
        promise = 15;
        says("BASE of a COMPONENT (1 on).");
        AlignedRuns x = Made.with("range 2x200x3x199 of 5", "equal 7 of 7");
        int[] want = {2, 200, 3, 199};
        for (int component = 1; component <= 4; component++) {
            int c = component;
            due("base " + c, want[c - 1], () -> x.base(0, c));
        }
        due("the other's", 7, () -> x.base(1, 1));
        due("0", NSEE, () -> x.base(0, 0));
        due("5", NSEE, () -> x.base(0, 5));
        due("the other's second", NSEE, () -> x.base(1, 2));
        due("column 2", NSEE, () -> x.base(2, 1));
        due("column -1", NSEE, () -> x.base(-1, 1));
    }

    private static void bitmapsTold() {
        promise = 16;
        says("Of a BITMAP of a COLUMN: 0 ROWS in it, 1 WORDS, 2 LITERALS, 3 FILLS, 4 the first ROW in it (NONE), 5 the last one (NONE).");
        AlignedRuns x = Made.with("equal 3 of 3");
        x.many(15, 2, 0, 0, 0);
        x.many(20, 0, 0, 0, 0);
        x.add(2, 0, 0, 0);
        int[][] want = {{20, 3, 1, 2, 15, 34}, {0, 1, 0, 1, -1, -1}, {16, 3, 1, 2, 0, 35}};
        for (int j = 0; j < 3; j++) {
            for (int what = 0; what <= 5; what++) {
                int at = j;
                int w = what;
                due("bitmap " + at + ", " + w, want[at][w], () -> x.index(0, 1, at, w));
            }
        }
        due("what 6", IAE, () -> x.index(0, 1, 2, 6));
        due("what -1", IAE, () -> x.index(0, 1, 0, -1));
        due("bitmap 3", NSEE, () -> x.index(0, 1, 3, 0));
        due("bitmap 3 ahead of what 6", NSEE, () -> x.index(0, 1, 3, 6));
        AlignedRuns none = Made.with("equal 3 of 3");
        int[] without = {0, 0, 0, 0, -1, -1};
        for (int what = 0; what <= 5; what++) {
            int w = what;
            due("without rows, " + w, without[w], () -> none.index(0, 1, 0, w));
        }
        AlignedRuns full = Made.with("equal 2 of 2");
        Made.grown(full, 1499);
        full.add(1, 0, 0, 0);
        due("the last of 1,500", 1499, () -> full.index(0, 1, 1, 4));
        due("the last but one of 1,500", 1498, () -> full.index(0, 1, 0, 5));
    }

    private static void bitmapWords() {
        promise = 17;
        says("Its k-th WORD, from 0 on.");
        AlignedRuns x = Made.with("range 2 of 2");
        x.many(15, 1, 0, 0, 0);
        x.many(31, 0, 0, 0, 0);
        int[] want = {ZERO + 1, ONE + 2, 1};
        for (int k = 0; k < 3; k++) {
            int at = k;
            due("word " + at, want[at], () -> x.indexWord(0, 1, 0, at));
        }
        due("3", NSEE, () -> x.indexWord(0, 1, 0, 3));
        due("-1", NSEE, () -> x.indexWord(0, 1, 0, -1));
        due("highest", NSEE, () -> x.indexWord(0, 1, 0, HIGH));
        due("lowest", NSEE, () -> x.indexWord(0, 1, 0, LOW));
        due("without rows", NSEE, () -> Made.with("range 2 of 2").indexWord(0, 1, 0, 0));
        AlignedRuns full = Made.with("range 2 of 2");
        for (int i = 0; i < 100; i++) {
            full.many(15, i % 2, 0, 0, 0);
        }
        due("word 99", ZERO + 1, () -> full.indexWord(0, 1, 0, 99));
        due("word 98", ONE + 1, () -> full.indexWord(0, 1, 0, 98));
        due("word 100", NSEE, () -> full.indexWord(0, 1, 0, 100));
    }

    private static void resultsTold() {
        promise = 18;
        says("Of a RESULT (0 to 5; LIVE is 6): 0 ROWS in it, 1 WORDS, 2 LITERALS, 3 FILLS, 4 the first ROW in it (NONE), "
            + "5 the last one (NONE), 6 how many rows of ROWS in it one behind the other there are, 7 the longest of these.");
        AlignedRuns x = forty();
        Made.load(x, 1, 0x4003, ONE + 1, 1 + 4 + 8);
        int[][] want = {{12, 3, 2, 1, 15, 39, 2, 11}, {21, 3, 2, 1, 0, 33, 3, 17}, {0, 1, 0, 1, -1, -1, 0, 0}};
        for (int r = 0; r < 3; r++) {
            for (int what = 0; what <= 7; what++) {
                int result = r;
                int w = what;
                due("result " + result + ", " + w, want[result][w], () -> x.result(result, w));
            }
        }
        x.delete(0);
        x.delete(39);
        int[] live = {38, 3, 2, 1, 1, 38, 1, 38};
        for (int what = 0; what <= 7; what++) {
            int w = what;
            due("LIVE, " + w, live[w], () -> x.result(6, w));
        }
        due("result 7", NSEE, () -> x.result(7, 0));
        due("result -1", NSEE, () -> x.result(-1, 0));
        due("what 8", IAE, () -> x.result(6, 8));
        due("what -1", IAE, () -> x.result(0, -1));
        AlignedRuns full = fullOfRows();
        int[] all = {1500, 1, 0, 1, 0, 1499, 1, 1500};
        for (int what = 0; what <= 7; what++) {
            int w = what;
            due("1,500, " + w, all[w], () -> full.result(6, w));
        }
        AlignedRuns few = Made.rows(40);
        for (int row : new int[] {0, 1, 13, 14}) {
            Made.load(few, 0, 1 << row, ZERO + 2);
            due("just row " + row + ": the first", row, () -> few.result(0, 4));
            due("just row " + row + ": the last", row, () -> few.result(0, 5));
            due("just row " + row + ": the longest", 1, () -> few.result(0, 7));
        }
        full.delete(1498);
        due("the last of 1,500 by itself", 2, () -> full.result(6, 6));
        due("the longest ahead of it", 1498, () -> full.result(6, 7));
        int[] each = new int[100];
        for (int i = 0; i < each.length; i++) {
            each[i] = i % 2 == 0 ? 0x5555 : 0x2AAA;
        }
        Made.load(full, 0, each);
        due("each second one of 1,500", 750, () -> full.result(0, 6));
        due("none of them longer", 1, () -> full.result(0, 7));
        due("as literals", 100, () -> full.result(0, 2));
    }

    private static void resultWords() {
        promise = 19;
        says("Its k-th WORD, from 0 on (LIVE is 6, so below).");
        AlignedRuns x = forty();
        int[] want = {ZERO + 1, 0x4001, 1023};
        for (int k = 0; k < 3; k++) {
            int at = k;
            due("word " + at, want[at], () -> x.word(0, at));
        }
        due("3", NSEE, () -> x.word(0, 3));
        due("-1", NSEE, () -> x.word(0, -1));
        due("lowest", NSEE, () -> x.word(0, LOW));
        due("highest", NSEE, () -> x.word(0, HIGH));
        due("LIVE's second", 1023, () -> x.word(6, 1));
        due("LIVE's third", NSEE, () -> x.word(6, 2));
        due("result 5", ZERO + 3, () -> x.word(5, 0));
        due("result 7", NSEE, () -> x.word(7, 0));
        due("result -1", NSEE, () -> x.word(-1, 0));
        due("without rows", NSEE, () -> new AlignedRuns().word(0, 0));
    }

    private static void had() {
        promise = 20;
        says("Whether a ROW is in it.");
        AlignedRuns x = forty();
        boolean[] want = new boolean[40];
        want[15] = true;
        for (int row = 29; row < 40; row++) {
            want[row] = true;
        }
        for (int row = 0; row < 40; row++) {
            int at = row;
            due("row " + at, want[at], () -> x.has(0, at));
        }
        due("row 40", NSEE, () -> x.has(0, 40));
        due("row -1", NSEE, () -> x.has(0, -1));
        due("lowest", NSEE, () -> x.has(0, LOW));
        due("highest", NSEE, () -> x.has(0, HIGH));
        due("LIVE", true, () -> x.has(6, 39));
        due("result 7", NSEE, () -> x.has(7, 0));
        due("result -1", NSEE, () -> x.has(-1, 0));
    }

    private static void ranks() {
        promise = 21;
        says("How many ROWS in it are below a ROW (0 to how many there are; IllegalArgumentException: another one).");
        AlignedRuns x = forty();
        int[][] want = {{0, 0}, {15, 0}, {16, 1}, {29, 1}, {30, 2}, {31, 3}, {39, 11}, {40, 12}};
        for (int[] w : want) {
            due("below " + w[0], w[1], () -> x.rank(0, w[0]));
        }
        due("41", IAE, () -> x.rank(0, 41));
        due("-1", IAE, () -> x.rank(0, -1));
        due("lowest", IAE, () -> x.rank(0, LOW));
        due("highest", IAE, () -> x.rank(0, HIGH));
        due("LIVE", 40, () -> x.rank(6, 40));
        due("result 7", NSEE, () -> x.rank(7, 0));
        due("result 7 ahead of row 41", NSEE, () -> x.rank(7, 41));
        due("0 of no rows", 0, () -> new AlignedRuns().rank(6, 0));
        due("1 of no rows", IAE, () -> new AlignedRuns().rank(6, 1));
        due("1,500", 1500, () -> fullOfRows().rank(6, 1500));
        due("1,499", 1499, () -> fullOfRows().rank(6, 1499));
        due("1,501", IAE, () -> fullOfRows().rank(6, 1501));
    }

    private static void selected() {
        promise = 22;
        says("The k-th ROW in it, from 0 on; NONE: there are not so many, or k is below 0.");
        AlignedRuns x = forty();
        int[] want = {15, 29, 30, 31, 32, 33, 34, 35, 36, 37, 38, 39, -1};
        for (int k = 0; k < want.length; k++) {
            int at = k;
            due("the " + at, want[at], () -> x.select(0, at));
        }
        due("-1", -1, () -> x.select(0, -1));
        due("lowest", -1, () -> x.select(0, LOW));
        due("highest", -1, () -> x.select(0, HIGH));
        due("of none", -1, () -> x.select(1, 0));
        due("LIVE", 39, () -> x.select(6, 39));
        due("behind LIVE", -1, () -> x.select(6, 40));
        due("result 7", NSEE, () -> x.select(7, 0));
        due("result -1", NSEE, () -> x.select(-1, -1));
        due("1,499", 1499, () -> fullOfRows().select(6, 1499));
        due("1,500", -1, () -> fullOfRows().select(6, 1500));
        due("no rows", -1, () -> new AlignedRuns().select(6, 0));
    }

    private static void nexts() {
        promise = 23;
        says("The first ROW in it from a ROW on (0 to how many there are); NONE.");
        AlignedRuns x = forty();
        int[][] want = {{0, 15}, {15, 15}, {16, 29}, {29, 29}, {30, 30}, {39, 39}, {40, -1}};
        for (int[] w : want) {
            due("from " + w[0], w[1], () -> x.next(0, w[0]));
        }
        due("41", IAE, () -> x.next(0, 41));
        due("-1", IAE, () -> x.next(0, -1));
        due("lowest", IAE, () -> x.next(0, LOW));
        due("highest", IAE, () -> x.next(0, HIGH));
        due("of none", -1, () -> x.next(1, 0));
        due("result 7", NSEE, () -> x.next(7, 0));
        due("result 7 ahead of row 41", NSEE, () -> x.next(7, 41));
        due("0 of no rows", -1, () -> new AlignedRuns().next(6, 0));
        due("1 of no rows", IAE, () -> new AlignedRuns().next(6, 1));
        due("1,499", 1499, () -> fullOfRows().next(6, 1499));
        due("1,500", -1, () -> fullOfRows().next(6, 1500));
        due("1,501", IAE, () -> fullOfRows().next(6, 1501));
    }

    private static void would() {
        promise = 24;
        says("How many ROWS LOGIC of two RESULTS would have (what 0), WORDS (1), STEPS (2).");
        AlignedRuns x = forty();
        Made.load(x, 1, ONE + 1, 0x4000, 1023);
        int[][] want = {{11, 3, 3}, {27, 3, 3}, {16, 3, 3}, {1, 3, 3}};
        for (int kind = 0; kind < 4; kind++) {
            for (int what = 0; what < 3; what++) {
                int k = kind;
                int w = what;
                due("logic " + k + ", " + w, want[k][w], () -> x.would(k, 0, 1, w));
            }
        }
        due("LESS the other way round", 15, () -> x.would(3, 1, 0, 0));
        due("its words", 2, () -> x.would(3, 1, 0, 1));
        due("with LIVE", 40, () -> x.would(1, 6, 0, 0));
        due("LIVE with itself", 0, () -> x.would(2, 6, 6, 0));
        due("its words ", 1, () -> x.would(2, 6, 6, 1));
        due("its steps", 2, () -> x.would(2, 6, 6, 2));
        due("nothing has changed", 12, () -> x.result(0, 0));
        due("nothing has changed in LIVE", 40, () -> x.result(6, 0));
        due("kind 4", IAE, () -> x.would(4, 0, 0, 0));
        due("kind -1", IAE, () -> x.would(-1, 0, 0, 2));
        due("what 3", IAE, () -> x.would(0, 0, 0, 3));
        due("what -1", IAE, () -> x.would(0, 0, 0, -1));
        due("result 7", NSEE, () -> x.would(0, 7, 0, 0));
        due("result 7 ahead of kind 4", NSEE, () -> x.would(4, 0, 7, 0));
        for (int what = 0; what < 3; what++) {
            int w = what;
            due("without rows, " + w, 0, () -> new AlignedRuns().would(1, 0, 6, w));
        }
    }

    private static void within() {
        promise = 25;
        says("Whether each ROW of the one is in the other one.");
        AlignedRuns x = forty();
        Made.load(x, 1, ZERO + 1, 0x4001, 511);
        due("all but the last", true, () -> x.within(1, 0));
        due("all", false, () -> x.within(0, 1));
        due("itself", true, () -> x.within(0, 0));
        due("none of them", true, () -> x.within(2, 3));
        due("none in some", true, () -> x.within(2, 0));
        due("some in none", false, () -> x.within(0, 2));
        due("in LIVE", true, () -> x.within(0, 6));
        x.delete(39);
        due("in LIVE without one", false, () -> x.within(0, 6));
        due("another in LIVE without one", true, () -> x.within(1, 6));
        due("LIVE in it", false, () -> x.within(6, 0));
        due("LIVE in itself", true, () -> x.within(6, 6));
        due("first 7", NSEE, () -> x.within(7, 0));
        due("second 7", NSEE, () -> x.within(0, 7));
        due("first -1", NSEE, () -> x.within(-1, 0));
        due("second -1", NSEE, () -> x.within(0, -1));
        due("without rows", true, () -> new AlignedRuns().within(6, 0));
    }

    private static void cost() {
        promise = 26;
        says("Of the latest QUESTION that was answered: 0 READINGS, 1 OPS, 2 STEPS; 0 each, if there was none.");
        AlignedRuns x = Made.small();
        for (int what = 0; what < 3; what++) {
            int w = what;
            due("none, " + w, 0, () -> x.cost(w));
        }
        due("one with a fault", -9, () -> Made.ask(x, 0, "or(le(0,37),le(0,38)"));
        for (int what = 0; what < 3; what++) {
            int w = what;
            due("none answered, " + w, 0, () -> x.cost(w));
        }
        due("answered", 4, () -> Made.ask(x, 0, "or(le(0,37),le(0,38))"));
        int[] want = {7, 6, 6};
        Made.ask(x, 0, "all() all()");
        Made.load(x, 1, 7);
        x.logic(1, 0, 1, 1);
        x.turn(1);
        x.would(0, 0, 1, 2);
        x.foretold(0, 0, 98, 2);
        x.delete(0);
        x.close();
        for (int what = 0; what < 3; what++) {
            int w = what;
            due("the latest answered, " + w, want[w], () -> x.cost(w));
        }
        due("another", 4, () -> Made.ask(x, 0, "all()"));
        for (int what = 0; what < 3; what++) {
            int w = what;
            due("the latest, " + w, 1, () -> x.cost(w));
        }
        due("3", IAE, () -> x.cost(3));
        due("-1", IAE, () -> x.cost(-1));
        due("lowest", IAE, () -> x.cost(LOW));
        due("highest", IAE, () -> x.cost(HIGH));
    }

    private static void values() {
        promise = 27;
        says("The VALUE of a ROW (deleted or not).");
        AlignedRuns x = Made.small();
        due("the first", 37, () -> x.value(0, 0));
        due("the last", 0, () -> x.value(0, 4));
        due("the other column's", 1, () -> x.value(1, 4));
        x.delete(2);
        due("deleted", 99, () -> x.value(0, 2));
        due("deleted, the other column's", 3, () -> x.value(1, 2));
        x.close();
        due("no more", 37, () -> x.value(0, 2));
        due("row 4", NSEE, () -> x.value(0, 4));
        due("row -1", NSEE, () -> x.value(0, -1));
        due("column 2", NSEE, () -> x.value(2, 0));
        due("column -1", NSEE, () -> x.value(-1, 0));
        AlignedRuns full = Made.with("equal 2 of 2");
        Made.grown(full, 1499);
        full.add(1, 0, 0, 0);
        due("row 1,499", 1, () -> full.value(0, 1499));
        due("row 1,500", NSEE, () -> full.value(0, 1500));
    }

    private static void sums() {
        promise = 28;
        says("VALUES of a COLUMN of ROWS in a RESULT (LIVE is 6), added up.");
        AlignedRuns x = Made.small();
        Made.load(x, 0, 0b00110);
        due("LIVE", 178, () -> x.sum(0, 6));
        due("a result", 104, () -> x.sum(0, 0));
        due("the other column", 3, () -> x.sum(1, 0));
        due("none", 0, () -> x.sum(0, 1));
        x.delete(2);
        due("LIVE without one", 79, () -> x.sum(0, 6));
        due("a result with a deleted one", 104, () -> x.sum(0, 0));
        due("column 2", NSEE, () -> x.sum(2, 0));
        due("column -1", NSEE, () -> x.sum(-1, 0));
        due("result 7", NSEE, () -> x.sum(0, 7));
        due("result -1", NSEE, () -> x.sum(0, -1));
        due("without rows", 0, () -> Made.with("equal 2 of 2").sum(0, 6));
        AlignedRuns full = Made.with("range 200 of 200");
        for (int i = 0; i < 4; i++) {
            full.many(375, 199, 0, 0, 0);
        }
        due("the greatest", 298500, () -> full.sum(0, 6));
    }

    private static void kths() {
        promise = 29;
        says("The k-th of these VALUES by size, from 0 on; NONE: there are not so many, or k is below 0.");
        AlignedRuns x = Made.small();
        Made.load(x, 0, 0b01101);
        int[] live = {0, 5, 37, 37, 99, -1};
        int[] some = {37, 37, 99, -1};
        for (int k = 0; k < live.length; k++) {
            int at = k;
            due("LIVE's " + at, live[at], () -> x.kth(0, 6, at));
        }
        for (int k = 0; k < some.length; k++) {
            int at = k;
            due("a result's " + at, some[at], () -> x.kth(0, 0, at));
        }
        due("of none", -1, () -> x.kth(0, 1, 0));
        due("-1", -1, () -> x.kth(0, 6, -1));
        due("lowest", -1, () -> x.kth(0, 6, LOW));
        due("highest", -1, () -> x.kth(0, 6, HIGH));
        due("column 2", NSEE, () -> x.kth(2, 6, -1));
        due("result 7", NSEE, () -> x.kth(0, 7, -1));
        AlignedRuns full = Made.with("range 200 of 200");
        Made.grown(full, 1499);
        full.add(199, 0, 0, 0);
        due("1,498", 0, () -> full.kth(0, 6, 1498));
        due("1,499", 199, () -> full.kth(0, 6, 1499));
        due("1,500", -1, () -> full.kth(0, 6, 1500));
    }

    private static void modes() {
        promise = 30;
        says("The VALUE that most of them have (what 0), of alike ones the least, how many these are (1); NONE, 0: there are none.");
        AlignedRuns x = Made.small();
        due("most", 37, () -> x.mode(0, 6, 0));
        due("how many", 2, () -> x.mode(0, 6, 1));
        due("most in the other column", 1, () -> x.mode(1, 6, 0));
        Made.load(x, 0, 0b10000);
        due("of just 0", 0, () -> x.mode(0, 0, 0));
        due("how many of just 0", 1, () -> x.mode(0, 0, 1));
        Made.load(x, 0, 0b00111);
        due("of three alike", 5, () -> x.mode(0, 0, 0));
        due("how many of three alike", 1, () -> x.mode(0, 0, 1));
        due("of none", -1, () -> x.mode(0, 1, 0));
        due("how many of none", 0, () -> x.mode(0, 1, 1));
        due("what 2", IAE, () -> x.mode(0, 6, 2));
        due("what -1", IAE, () -> x.mode(0, 6, -1));
        due("column 2 first", NSEE, () -> x.mode(2, 6, 2));
        due("result 7 first", NSEE, () -> x.mode(0, 7, 2));
        AlignedRuns full = Made.with("range 200 of 200");
        for (int i = 0; i < 4; i++) {
            full.many(375, i < 2 ? 199 : 198, 0, 0, 0);
        }
        due("750 of each", 198, () -> full.mode(0, 6, 0));
        due("how many of each", 750, () -> full.mode(0, 6, 1));
        full.delete(1499);
        due("one less", 199, () -> full.mode(0, 6, 0));
    }

    private static void unlike() {
        promise = 31;
        says("How many unlike VALUES they have.");
        AlignedRuns x = Made.small();
        due("LIVE", 4, () -> x.unlike(0, 6));
        Made.load(x, 0, 0b01001);
        due("alike ones", 1, () -> x.unlike(0, 0));
        due("in the other column", 2, () -> x.unlike(1, 0));
        due("none", 0, () -> x.unlike(0, 1));
        due("column 2", NSEE, () -> x.unlike(2, 6));
        due("result 7", NSEE, () -> x.unlike(0, 7));
        AlignedRuns all = Made.with("range 200 of 200");
        for (int v = 0; v < 200; v++) {
            all.add(v, 0, 0, 0);
        }
        due("all there can be", 200, () -> all.unlike(0, 6));
    }

    private static void spans() {
        promise = 32;
        says("How many ROWS of a RESULT (LIVE is 6) have VALUES of a COLUMN from one to another one "
            + "(0 to 999 each; none, if the first one is greater).");
        AlignedRuns x = Made.small();
        int[][] want = {{0, 0, 1}, {0, 4, 1}, {0, 5, 2}, {1, 4, 0}, {5, 36, 1}, {5, 37, 3}, {6, 37, 2}, {37, 37, 2}, {38, 98, 0},
            {37, 99, 3}, {99, 99, 1}, {99, 999, 1}, {100, 999, 0}, {999, 999, 0}, {0, 999, 5}, {37, 36, 0}, {999, 0, 0}, {1, 0, 0}};
        for (int[] w : want) {
            due("from " + w[0] + " to " + w[1], w[2], () -> x.span(0, 6, w[0], w[1]));
        }
        due("of no rows", 0, () -> x.span(0, 0, 0, 999));
        due("from -1", IAE, () -> x.span(0, 6, -1, 0));
        due("from 1,000", IAE, () -> x.span(0, 6, 1000, 0));
        due("to -1", IAE, () -> x.span(0, 6, 0, -1));
        due("to 1,000", IAE, () -> x.span(0, 6, 0, 1000));
        due("from 1,000 to 1,000", IAE, () -> x.span(0, 6, 1000, 1000));
        due("to the highest", IAE, () -> x.span(0, 6, 0, HIGH));
        due("column 2 first", NSEE, () -> x.span(2, 6, -1, -1));
        due("result 7 first", NSEE, () -> x.span(0, 7, -1, -1));
        AlignedRuns full = Made.with("range 200 of 200");
        full.many(7, 199, 0, 0, 0);
        due("199", 7, () -> full.span(0, 6, 199, 199));
        due("200", 0, () -> full.span(0, 6, 200, 200));
    }

    private static void foretold() {
        promise = 33;
        says("What a QUESTION of just that (0 le, 1 lt, 2 ge, 3 gt, 4 eq, 5 ne of a COLUMN and N, 0 to 999) would take: "
            + "0 READINGS, 1 OPS, 2 STEPS.");
        AlignedRuns x = Made.twelve("range 4x3 of 12", "equal 4x3 of 12");
        Made.grown(x, 30);
        String[] names = {"le", "lt", "ge", "gt", "eq", "ne"};
        for (int kind = 0; kind < 6; kind++) {
            for (int n : new int[] {0, 1, 11, 12, 999}) {
                AlignedRuns other = Made.twelve("range 4x3 of 12", "equal 4x3 of 12");
                Made.grown(other, 30);
                int k = kind;
                for (int what = 0; what < 3; what++) {
                    int w = what;
                    Made.ask(other, 0, names[k] + "(0," + n + ")");
                    due(names[k] + " " + n + " by range, " + w, other.cost(w), () -> x.foretold(k, 0, n, w));
                    Made.ask(other, 0, names[k] + "(1," + n + ")");
                    due(names[k] + " " + n + " by equal, " + w, other.cost(w), () -> x.foretold(k, 1, n, w));
                }
            }
        }
        due("readings of le 4", 4, () -> x.foretold(0, 0, 4, 0));
        due("ops of le 4", 3, () -> x.foretold(0, 0, 4, 1));
        due("nothing has been asked", 0, () -> x.cost(1));
        due("nothing is a result", 0, () -> x.result(0, 0));
        due("kind 6", IAE, () -> x.foretold(6, 0, 0, 0));
        due("kind -1", IAE, () -> x.foretold(-1, 0, 0, 0));
        due("n 1,000", IAE, () -> x.foretold(0, 0, 1000, 0));
        due("n -1", IAE, () -> x.foretold(0, 0, -1, 0));
        due("what 3", IAE, () -> x.foretold(0, 0, 0, 3));
        due("what -1", IAE, () -> x.foretold(0, 0, 0, -1));
        due("column 2 first", NSEE, () -> x.foretold(6, 2, 1000, 3));
        due("column -1", NSEE, () -> x.foretold(0, -1, 0, 0));
        AlignedRuns none = Made.with("range 4x3 of 12");
        due("steps without rows", 0, () -> none.foretold(4, 0, 11, 2));
        due("ops without rows", 4, () -> none.foretold(4, 0, 11, 1));
    }

    private static void differ() {
        promise = 34;
        says("In how many ROWS two RESULTS (LIVE is 6) differ.");
        AlignedRuns x = forty();
        Made.load(x, 1, ONE + 1, 0x4001, 1022);
        due("two", 16, () -> x.differ(0, 1));
        due("the other way round", 16, () -> x.differ(1, 0));
        due("itself", 0, () -> x.differ(0, 0));
        due("LIVE", 28, () -> x.differ(0, 6));
        due("LIVE and none", 40, () -> x.differ(6, 5));
        x.delete(39);
        due("a deleted one", 29, () -> x.differ(0, 6));
        due("first 7", NSEE, () -> x.differ(7, 0));
        due("second 7", NSEE, () -> x.differ(0, 7));
        due("first -1", NSEE, () -> x.differ(-1, 0));
        due("second -1", NSEE, () -> x.differ(0, -1));
        due("without rows", 0, () -> new AlignedRuns().differ(0, 6));
        due("1,500", 1500, () -> fullOfRows().differ(0, 6));
    }

    private static void groups() {
        promise = 35;
        says("Of the k-th GROUP (from 0 on) of a RESULT (LIVE is 6): 0 its ROWS as they would be in a LITERAL (0 to 32,767), "
            + "1 for how many GROUPS its WORD stands, 2 which WORD that is (from 0 on).");
        AlignedRuns x = Made.rows(140);
        Made.load(x, 0, ZERO + 2, 1, 32766, ONE + 3, ZERO + 1, 7, ZERO + 1);
        int[][] want = {{0, 2, 0}, {0, 2, 0}, {1, 1, 1}, {32766, 1, 2}, {32767, 3, 3}, {32767, 3, 3}, {32767, 3, 3}, {0, 1, 4},
            {7, 1, 5}, {0, 1, 6}};
        for (int k = 0; k < want.length; k++) {
            for (int what = 0; what < 3; what++) {
                int at = k;
                int w = what;
                due("group " + at + ", " + w, want[at][w], () -> x.group(0, at, w));
            }
        }
        due("alike literals", 3 * 3 + 2 * 2 + 15, () -> Made.load(x, 1, 7, 7, 7, ZERO + 2, 9, 9, ONE + 1, ZERO + 2));
        int[] words = {0, 1, 2, 3, 3, 4, 5, 6, 7, 7};
        for (int k = 0; k < words.length; k++) {
            int at = k;
            due("group " + at + " of alike literals is word", words[at], () -> x.group(1, at, 2));
        }
        due("an alike literal stands for", 1, () -> x.group(1, 1, 1));
        due("the last of alike ones stands for", 1, () -> x.group(1, 5, 1));
        due("LIVE's last", 31, () -> x.group(6, 9, 0));
        due("LIVE's last but one", 9, () -> x.group(6, 8, 1));
        due("LIVE's last is word", 1, () -> x.group(6, 9, 2));
        due("what 3", IAE, () -> x.group(0, 9, 3));
        due("what -1", IAE, () -> x.group(0, 0, -1));
        due("result 7 first", NSEE, () -> x.group(7, 0, 3));
        says("NoSuchElementException: there are not so many.");
        due("10", NSEE, () -> x.group(0, 10, 0));
        due("10 ahead of what 3", NSEE, () -> x.group(0, 10, 3));
        due("highest", NSEE, () -> x.group(0, HIGH, 0));
        due("-1", NSEE, () -> x.group(0, -1, 0));
        due("without rows", NSEE, () -> new AlignedRuns().group(6, 0, 0));
        due("99 of 1,500 rows", 32767, () -> fullOfRows().group(6, 99, 0));
        due("100 of 1,500 rows", NSEE, () -> fullOfRows().group(6, 100, 0));
        due("all in one word", 100, () -> fullOfRows().group(6, 99, 1));
    }

    private static void widest() {
        promise = 36;
        says("For how many GROUPS the greatest FILL of a RESULT (LIVE is 6) stands; 0 without FILLS.");
        AlignedRuns x = Made.rows(140);
        Made.load(x, 0, ZERO + 2, 1, ONE + 3, ZERO + 4);
        due("the last", 4, () -> x.widest(0));
        Made.load(x, 0, ZERO + 4, ONE + 5, ZERO + 1);
        due("one between", 5, () -> x.widest(0));
        Made.load(x, 0, ONE + 6, 1, ZERO + 3);
        due("the first", 6, () -> x.widest(0));
        Made.load(x, 0, 1, 2, 3, 4, 5, 6, 7, 8, 9, 10);
        due("without", 0, () -> x.widest(0));
        due("LIVE", 9, () -> x.widest(6));
        due("none", 10, () -> x.widest(5));
        due("result 7", NSEE, () -> x.widest(7));
        due("result -1", NSEE, () -> x.widest(-1));
        due("without rows", 0, () -> new AlignedRuns().widest(6));
        due("14 rows, all 1", 0, () -> Made.rows(14).widest(6));
        due("14 rows, all 0", 1, () -> Made.rows(14).widest(0));
        due("15 rows", 1, () -> Made.rows(15).widest(6));
        due("1,500 rows", 100, () -> fullOfRows().widest(6));
    }

    private static void heaviest() {
        promise = 37;
        says("The COMPONENT of a COLUMN whose BITMAPS have most WORDS (what 0), of alike ones the first, how many (1).");
        AlignedRuns x = Made.with("equal 2x3x2 of 12", "range 3x3 of 9", "equal 3x2x3 of 12", "range 7 of 7");
        int[][] without = {{1, 0}, {1, 0}, {1, 0}, {1, 0}};
        int[][] want = {{2, 3}, {1, 2}, {1, 3}, {1, 6}};
        for (int c = 0; c < 4; c++) {
            for (int what = 0; what < 2; what++) {
                int column = c;
                int w = what;
                due("without rows, column " + column + ", " + w, without[column][w], () -> x.heaviest(column, w));
            }
        }
        x.many(15, 0, 0, 0, 0);
        for (int c = 0; c < 4; c++) {
            for (int what = 0; what < 2; what++) {
                int column = c;
                int w = what;
                due("column " + column + ", " + w, want[column][w], () -> x.heaviest(column, w));
            }
        }
        x.many(15, 6, 4, 6, 0);
        due("the last one", 3, () -> x.heaviest(2, 0));
        due("the last one's words", 5, () -> x.heaviest(2, 1));
        due("what 2", IAE, () -> x.heaviest(0, 2));
        due("what -1", IAE, () -> x.heaviest(0, -1));
        due("column 4 first", NSEE, () -> x.heaviest(4, 2));
        due("column -1", NSEE, () -> x.heaviest(-1, 0));
    }

    private static void ordered() {
        promise = 38;
        says("How many WORDS BITMAPS of a COLUMN would have, were ROWS in order of their VALUES in another COLUMN (or the same), "
            + "the least first, alike ones as they are.");
        AlignedRuns x = Made.with("equal 2 of 2", "equal 200 of 200");
        for (int i = 0; i < 90; i++) {
            x.add(i / 15 % 2, 199 - i, 0, 0);
        }
        due("as they are", 12, () -> x.columnOf(0, 4));
        due("by itself", 4, () -> x.ordered(0, 0));
        due("by one that turns them round", 12, () -> x.ordered(0, 1));
        due("the other by itself, still turned round", x.columnOf(1, 4), () -> x.ordered(1, 1));
        AlignedRuns y = Made.with("equal 2 of 2", "range 3 of 3");
        for (int i = 0; i < 60; i++) {
            y.add(i / 15 % 2, i / 30, 0, 0);
        }
        due("alike ones as they are", 8, () -> y.ordered(0, 1));
        due("in order", 4, () -> y.ordered(0, 0));
        y.delete(0);
        due("deleted ones, too", 4, () -> y.ordered(0, 0));
        due("rows stay as they are", 8, () -> y.columnOf(0, 4));
        AlignedRuns last = Made.with("equal 2 of 2", "equal 200 of 200");
        last.add(1, 199, 0, 0);
        last.many(30, 0, 198, 0, 0);
        due("the greatest value goes last", 4, () -> last.ordered(0, 1));
        due("row 0 goes last", 4, () -> last.ordered(0, 0));
        due("as it is", 2 + 3, () -> last.columnOf(0, 4));
        AlignedRuns least = Made.with("range 2 of 2", "equal 200 of 200");
        least.many(30, 1, 1, 0, 0);
        least.many(15, 0, 0, 0, 0);
        due("the least value goes first", 2, () -> least.ordered(0, 1));
        due("as it was", 2, () -> least.columnOf(0, 4));
        due("column 2", NSEE, () -> x.ordered(2, 0));
        due("by 2", NSEE, () -> x.ordered(0, 2));
        due("column -1", NSEE, () -> x.ordered(-1, 0));
        due("by -1", NSEE, () -> x.ordered(0, -1));
        due("without rows", 0, () -> Made.with("equal 2 of 2").ordered(0, 0));
        AlignedRuns full = Made.with("equal 2 of 2");
        for (int i = 0; i < 100; i++) {
            full.many(15, i % 2, 0, 0, 0);
        }
        due("1,500 as they are", 200, () -> full.columnOf(0, 4));
        due("1,500 in order", 4, () -> full.ordered(0, 0));
    }

    private static void readings() {
        promise = 39;
        says("READINGS of le(C, N) (without that of LIVE) for N 0 to CARD less 1: all together (what 0), the most of one (1).");
        // range 4x3: 2, 2, 2, 1, 3, 3, 3, 2, 2, 2, 2, 0; equal 4x3: 1 to 4 for x1 and 1 to 3 for x2, 0 for the last N.
        AlignedRuns x = Made.with("range 4x3 of 12", "equal 4x3 of 12", "range 2 of 2", "equal 2 of 2");
        int[][] want = {{24, 3}, {4 * 6 + 3 * 10 - 7, 6}, {1, 1}, {1, 1}};
        for (int c = 0; c < 4; c++) {
            for (int what = 0; what < 2; what++) {
                int column = c;
                int w = what;
                due("column " + column + ", " + w, want[column][w], () -> x.readings(column, w));
            }
        }
        AlignedRuns y = Made.with("range 4x3 of 11", "range 200 of 200", "equal 200 of 200", "range 2x2x2x2 of 2");
        int[][] more = {{22, 3}, {199, 1}, {19900, 199}, {4, 4}};
        for (int c = 0; c < 4; c++) {
            for (int what = 0; what < 2; what++) {
                int column = c;
                int w = what;
                due("another column " + column + ", " + w, more[column][w], () -> y.readings(column, w));
            }
        }
        due("what 2", IAE, () -> x.readings(0, 2));
        due("what -1", IAE, () -> x.readings(0, -1));
        due("column 4 first", NSEE, () -> x.readings(4, 2));
        due("column -1", NSEE, () -> x.readings(-1, 0));
    }

    private static void sought(String what, int[] want, java.util.function.IntFunction<Object> call) {
        for (int w = 0; w <= 4; w++) {
            int at = w;
            due(what + ", " + at, want[at], () -> call.apply(at));
        }
    }

    private static void thrift() {
        promise = 40;
        says("BASES for a CARD (2 to 200) by so many COMPONENTS (1 to 4) that have fewest BITMAPS by \"range\", "
            + "of alike ones the first by BASE 1, then 2, and so on: how many BITMAPS (what 0), BASE what "
            + "(1 to 4; NONE: there are not so many COMPONENTS).");
        AlignedRuns x = new AlignedRuns();
        int[][] want = {{2, 1, 1, 2, -1, -1, -1}, {2, 2, 2, 2, 2, -1, -1}, {2, 3, 3, 2, 2, 2, -1}, {2, 4, 4, 2, 2, 2, 2},
            {200, 1, 199, 200, -1, -1, -1}, {200, 2, 27, 12, 17, -1, -1}, {200, 3, 15, 5, 5, 8, -1}, {200, 4, 12, 2, 4, 5, 5},
            {16, 4, 4, 2, 2, 2, 2}, {17, 4, 5, 2, 2, 2, 3}, {4, 2, 2, 2, 2, -1, -1}, {5, 2, 3, 2, 3, -1, -1},
            {6, 2, 3, 2, 3, -1, -1}, {7, 2, 4, 2, 4, -1, -1}, {9, 2, 4, 3, 3, -1, -1}, {3, 1, 2, 3, -1, -1, -1}};
        for (int[] w : want) {
            sought("card " + w[0] + " by " + w[1], java.util.Arrays.copyOfRange(w, 2, 7), what -> x.thrift(w[0], w[1], what));
        }
        due("card 1", IAE, () -> x.thrift(1, 1, 0));
        due("card 201", IAE, () -> x.thrift(201, 1, 0));
        due("no components", IAE, () -> x.thrift(2, 0, 0));
        due("5 components", IAE, () -> x.thrift(2, 5, 0));
        due("what 5", IAE, () -> x.thrift(2, 4, 5));
        due("what -1", IAE, () -> x.thrift(2, 4, -1));
        due("highest", IAE, () -> x.thrift(HIGH, 4, 0));
        due("lowest", IAE, () -> x.thrift(LOW, 4, 0));
    }

    private static void swift() {
        promise = 41;
        says("BASES (1 to 4 COMPONENTS) for a CARD with at most so many BITMAPS (1 to 24) by \"range\" for which READINGS of le "
            + "for N 0 to CARD less 1 together are fewest, of alike ones of fewer COMPONENTS, then likewise: "
            + "how many READINGS (what 0), BASE what (1 to 4; NONE).");
        AlignedRuns x = new AlignedRuns();
        int[][] want = {{2, 1, 1, 2, -1, -1, -1}, {2, 24, 1, 2, -1, -1, -1}, {3, 2, 2, 3, -1, -1, -1}, {25, 24, 24, 25, -1, -1, -1},
            {24, 24, 23, 24, -1, -1, -1}, {6, 4, 9, 3, 2, -1, -1}, {7, 5, 11, 4, 2, -1, -1}, {9, 7, 15, 5, 2, -1, -1},
            {4, 2, 5, 2, 2, -1, -1}, {16, 4, 53, 2, 2, 2, 2}, {26, 24, 49, 13, 2, -1, -1}, {200, 12, 977, 5, 2, 4, 5},
            {5, 3, 7, 3, 2, -1, -1}, {10, 5, 17, 5, 2, -1, -1}, {12, 5, 24, 4, 3, -1, -1}, {13, 6, 27, 5, 3, -1, -1},
            {27, 6, 88, 3, 3, 3, -1}, {30, 7, 92, 5, 2, 3, -1}, {31, 8, 97, 6, 2, 3, -1}, {47, 9, 155, 6, 2, 4, -1},
            {50, 24, 113, 17, 3, -1, -1}, {60, 10, 204, 6, 2, 5, -1}, {63, 9, 235, 4, 4, 4, -1}, {77, 13, 261, 10, 2, 4, -1},
            {81, 8, 375, 3, 3, 3, 3}, {99, 15, 345, 10, 2, 5, -1}, {100, 9, 476, 4, 3, 3, 3}, {100, 18, 269, 10, 10, -1, -1},
            {100, 24, 254, 20, 5, -1, -1}, {101, 11, 437, 7, 4, 2, 2}, {127, 10, 601, 4, 2, 4, 4}, {128, 11, 596, 6, 4, 2, 3},
            {150, 24, 409, 15, 10, -1, -1}, {169, 24, 467, 13, 13, -1, -1}, {170, 24, 600, 17, 2, 5, -1}, {199, 12, 973, 5, 2, 4, 5},
            {199, 20, 735, 10, 2, 10, -1}, {200, 13, 960, 7, 3, 2, 5}, {200, 14, 946, 9, 3, 2, 4}, {200, 15, 813, 8, 5, 5, -1},
            {200, 16, 798, 10, 4, 5, -1}, {200, 24, 708, 20, 2, 5, -1}};
        for (int[] w : want) {
            sought("card " + w[0] + " with " + w[1], java.util.Arrays.copyOfRange(w, 2, 7), what -> x.swift(w[0], w[1], what));
        }
        says("NONE each: there are none.");
        int[] none = {-1, -1, -1, -1, -1};
        for (int[] w : new int[][] {{3, 1}, {4, 1}, {5, 2}, {17, 4}, {200, 11}, {200, 1}}) {
            sought("card " + w[0] + " with " + w[1], none, what -> x.swift(w[0], w[1], what));
        }
        due("card 1", IAE, () -> x.swift(1, 24, 0));
        due("card 201", IAE, () -> x.swift(201, 24, 0));
        due("no bitmaps", IAE, () -> x.swift(2, 0, 0));
        due("25 bitmaps", IAE, () -> x.swift(2, 25, 0));
        due("what 5", IAE, () -> x.swift(2, 24, 5));
        due("what -1", IAE, () -> x.swift(2, 24, -1));
        due("highest", IAE, () -> x.swift(2, HIGH, 0));
        due("lowest", IAE, () -> x.swift(2, LOW, 0));
    }

    private static void status() {
        promise = 42;
        says("How many calls were refused: 0 NoSuchElementException, 1 IllegalArgumentException, 2 IllegalStateException; NONE for others.");
        AlignedRuns x = Made.with("range 2 of 2");
        due("none", 0, () -> x.status(0) + x.status(1) + x.status(2));
        due("an element", NSEE, () -> x.value(1, 0));
        due("an element and an argument", NSEE, () -> x.columnOf(1, 9));
        due("two arguments", IAE, () -> x.foretold(9, 0, -1, 9));
        due("an argument", IAE, () -> x.told(7));
        due("another argument", IAE, () -> x.add(2, 0, 0, 0));
        x.add(0, 0, 0, 0);
        due("a state", ISE, () -> x.column(0));
        due("a fault", -9, () -> x.ask(0, 0));
        due("NONE is no refusal", -1, () -> x.select(0, 0));
        for (int i = 0; i < 20; i++) {
            x.feed(0, 0, 0, 0, 0);
        }
        due("a full tape is none", -1, () -> x.feed(0, 0, 0, 0, 0));
        due("elements", 2, () -> x.status(0));
        due("arguments", 3, () -> x.status(1));
        due("states", 1, () -> x.status(2));
        due("3", -1, () -> x.status(3));
        due("-1", -1, () -> x.status(-1));
        due("lowest", -1, () -> x.status(LOW));
        due("highest", -1, () -> x.status(HIGH));
        due("these are none", 3, () -> x.status(1));
    }
}
