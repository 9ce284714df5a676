/** The promises of the document one by one: ordinary inputs, the edges that it names, wrong inputs. */
public final class PromisesTest {
    private static final String NSEE = "NoSuchElementException";
    private static final String IAE = "IllegalArgumentException";
    private static final String ISE = "IllegalStateException";
    private static final int LOW = Integer.MIN_VALUE;
    private static final int HIGH = Integer.MAX_VALUE;

    private static int promise = 0;

    private static void due(String what, Object want, Check.Call call) {
        Check.due("promise " + promise + ": " + what, want, call);
    }

    public static void main(String[] args) {
        newObject();
        feeding();
        columnTexts();
        columnRefusals();
        adding();
        addingMany();
        deleting();
        closing();
        askingFaults();
        askingAnswers();
        askingRefusals();
        loading();
        faultPlaces();
        logicOfResults();
        turning();
        telling();
        columnsTold();
        bases();
        indexes();
        indexWords();
        resultsTold();
        words();
        rowsHad();
        ranks();
        selects();
        nexts();
        woulds();
        withins();
        costs();
        values();
        sums();
        kths();
        modes();
        unlikes();
        spans();
        foretolds();
        differs();
        groups();
        widests();
        heaviests();
        ordereds();
        readingsTold();
        thrifts();
        swifts();
        statuses();
        Check.end("PromisesTest");
    }

    private static void newObject() {
        promise = 1;
        AlignedRuns x = new AlignedRuns();
        due("NONE", -1, () -> AlignedRuns.NONE);
        for (int what = 0; what <= 6; what++) {
            int w = what;
            due("told(" + w + ")", 0, () -> x.told(w));
        }
        for (int r = 0; r <= 6; r++) {
            int result = r;
            due("result rows", 0, () -> x.result(result, 0));
            due("result words", 0, () -> x.result(result, 1));
        }
        due("fault()", -1, x::fault);
        due("a question without rows", 0, () -> Made.ask(x, 0, "not(none())"));
        due("its steps", 0, () -> x.cost(2));
    }

    private static void feeding() {
        promise = 2;
        AlignedRuns x = new AlignedRuns();
        for (int i = 1; i <= 20; i++) {
            due("feed " + i, 20 * i, () -> x.feed(1, 2, 3, 4, 5));
        }
        due("feed beyond 400", -1, () -> x.feed(1, 2, 3, 4, 5));
        due("the tape after that", 400, () -> x.told(6));
        AlignedRuns y = new AlignedRuns();
        y.many(30, 0, 0, 0, 0);
        y.feed(0x00018001, 0, 0, 0, 0);
        due("highest byte first", 1, () -> y.load(0, 4));
        due("first word", 1, () -> y.word(0, 0));
        due("second word", 0x8001, () -> y.word(0, 1));
    }

    private static void faultyColumn(String text, int fault, int place) {
        AlignedRuns x = new AlignedRuns();
        due("column '" + text + "'", fault - 10, () -> Made.column(x, text));
        due("place in '" + text + "'", place, x::fault);
        due("columns after '" + text + "'", 0, () -> x.told(0));
        due("tape after '" + text + "'", 0, () -> x.told(6));
    }

    private static void columnTexts() {
        promise = 3;
        faultyColumn("", 1, 0);
        faultyColumn("   ", 1, 3);
        faultyColumn("rang 3 of 3", 1, 0);
        faultyColumn("ranges 3 of 3", 1, 0);
        faultyColumn("Range 3 of 3", 1, 0);
        faultyColumn("  7 of 3", 1, 2);
        faultyColumn("range", 1, 5);
        faultyColumn("range ", 1, 6);
        faultyColumn("range of 3", 1, 6);
        faultyColumn("range 1 of 2", 2, 6);
        faultyColumn("range 0002 of 2 2", 1, 16);
        faultyColumn("range 201 of 2", 2, 6);
        faultyColumn("range 4294967298 of 2", 2, 6);
        faultyColumn("range 2", 1, 7);
        faultyColumn("range 2 3 of 3", 1, 8);
        faultyColumn("range 2x of 3", 1, 9);
        faultyColumn("range 2xx2 of 3", 1, 7);
        faultyColumn("range 2xof 3", 1, 7);
        faultyColumn("range 2,2 of 3", 1, 7);
        faultyColumn("range 2x2x2x2x2 of 3", 3, 14);
        faultyColumn("range 2x2x2x2x 999 of 3", 3, 15);
        faultyColumn("range 2x2x2x2x of 3", 1, 15);
        faultyColumn("range 2x2x2x1x2 of 3", 2, 12);
        faultyColumn("range 2 of", 1, 10);
        faultyColumn("range 2 of x", 1, 11);
        faultyColumn("range 2 of 1", 2, 11);
        faultyColumn("range 200x2 of 201", 2, 15);
        faultyColumn("range 2x2 of 5", 4, 13);
        faultyColumn("range 2x2 of 5 x", 4, 13);
        faultyColumn("equal 3 of 3 x", 1, 13);
        faultyColumn("equal 3 of 3\t", 1, 12);
        faultyColumn("equal\t3 of 3", 1, 5);
        faultyColumn("equal 3 of 3" + (char) 233, 1, 12);
        AlignedRuns x = new AlignedRuns();
        due("with blanks", 0, () -> Made.column(x, "  range 10  x 10 of   100  "));
        due("without blanks", 1, () -> Made.column(x, "equal2x2of4"));
        due("greatest bases", 2, () -> Made.column(x, "equal 200x200x200x200 of 200"));
        due("leading zeros", 3, () -> Made.column(x, "range 0000000000002x03 of 005"));
        due("bases", 3, () -> x.base(3, 2));
        due("card", 5, () -> x.columnOf(3, 0));
    }

    private static void columnRefusals() {
        AlignedRuns x = Made.with("equal 2 of 2");
        due("n beyond the tape", IAE, () -> x.column(1));
        due("n below 0", IAE, () -> x.column(-1));
        for (int i = 0; i < 11; i++) {
            x.feed(0x20202020, 0x20202020, 0x20202020, 0x20202020, 0x20202020);
        }
        due("n beyond 200", IAE, () -> x.column(201));
        due("lowest n", IAE, () -> x.column(LOW));
        due("highest n", IAE, () -> x.column(HIGH));
        due("tape stays", 220, () -> x.told(6));
        due("200 blanks", -9, () -> x.column(200));
        due("their fault", 200, x::fault);
        due("tape is empty", 0, () -> x.told(6));
        x.add(0, 0, 0, 0);
        x.feed(0x20202020, 0, 0, 0, 0);
        due("there are rows", ISE, () -> x.column(4));
        due("tape stays then", 20, () -> x.told(6));
        due("an argument ahead of the state", IAE, () -> x.column(21));
        x.delete(0);
        x.close();
        due("no rows again", -9, () -> x.column(4));
        AlignedRuns full = Made.with("equal 2 of 2", "equal 2 of 2", "equal 2 of 2", "equal 2 of 2");
        due("four columns", ISE, () -> full.column(0));
        due("four columns stay", 4, () -> full.told(0));
    }

    private static void adding() {
        promise = 4;
        AlignedRuns x = Made.with("range 3x3 of 7", "equal 2 of 2");
        due("first row", 0, () -> x.add(6, 1, -5, 999));
        due("second row", 1, () -> x.add(0, 0, HIGH, LOW));
        due("value at card", IAE, () -> x.add(7, 0, 0, 0));
        due("value below 0", IAE, () -> x.add(-1, 0, 0, 0));
        due("second value", IAE, () -> x.add(0, 2, 0, 0));
        due("lowest value", IAE, () -> x.add(0, LOW, 0, 0));
        due("rows", 2, () -> x.told(1));
        AlignedRuns full = Made.with("range 2 of 2");
        full.many(400, 0, 0, 0, 0);
        full.many(400, 1, 0, 0, 0);
        full.many(400, 0, 0, 0, 0);
        full.many(299, 1, 0, 0, 0);
        due("last row", 1499, () -> full.add(0, 0, 0, 0));
        due("one too many", ISE, () -> full.add(0, 0, 0, 0));
        due("value ahead of the state", IAE, () -> full.add(2, 0, 0, 0));
        due("bitmap words", 7, () -> full.index(0, 1, 0, 1));
    }

    private static void addingMany() {
        promise = 5;
        AlignedRuns x = Made.with("equal 3 of 3");
        due("many", 20, () -> x.many(20, 2, 0, 0, 0));
        due("no rows", IAE, () -> x.many(0, 0, 0, 0, 0));
        due("below 0", IAE, () -> x.many(-1, 0, 0, 0, 0));
        due("401", IAE, () -> x.many(401, 0, 0, 0, 0));
        due("value", IAE, () -> x.many(2, 3, 0, 0, 0));
        due("highest", IAE, () -> x.many(HIGH, 0, 0, 0, 0));
        due("rows", 20, () -> x.told(1));
        due("word 0", 0xC001, () -> x.indexWord(0, 1, 2, 0));
        due("word 1", 31, () -> x.indexWord(0, 1, 2, 1));
        due("others", 0x8002, () -> x.indexWord(0, 1, 0, 0));
        x.many(400, 0, 0, 0, 0);
        x.many(400, 0, 0, 0, 0);
        x.many(400, 0, 0, 0, 0);
        due("281 more", ISE, () -> x.many(281, 0, 0, 0, 0));
        due("280 more", 1500, () -> x.many(280, 0, 0, 0, 0));
        due("argument ahead of the state", IAE, () -> x.many(401, 0, 0, 0, 0));
        due("full", ISE, () -> x.many(1, 0, 0, 0, 0));
    }

    private static void deleting() {
        promise = 6;
        AlignedRuns x = Made.small();
        due("no such row", NSEE, () -> x.delete(5));
        due("below 0", NSEE, () -> x.delete(-1));
        due("lowest", NSEE, () -> x.delete(LOW));
        due("delete", 4, () -> x.delete(3));
        due("again", NSEE, () -> x.delete(3));
        due("delete another", 3, () -> x.delete(0));
        due("rows stay", 5, () -> x.told(1));
        due("not deleted", 3, () -> x.told(2));
        due("bitmaps stay", 2, () -> x.index(1, 1, 1, 0));
        due("LIVE", 22, () -> x.word(6, 0));
        due("answers are without them", 0, () -> Made.ask(x, 0, "eq(0,37)"));
        due("all", 3, () -> Made.ask(x, 0, "all()"));
    }

    private static void closing() {
        promise = 7;
        AlignedRuns x = Made.small();
        due("none deleted", 0, x::close);
        Made.ask(x, 2, "le(0,37)");
        Made.load(x, 5, 0b10010);
        x.delete(0);
        x.delete(2);
        due("two deleted", 2, x::close);
        due("rows", 3, () -> x.told(1));
        due("value", 5, () -> x.value(0, 0));
        due("value behind", 37, () -> x.value(0, 1));
        due("result", 7, () -> x.word(2, 0));
        due("last result", 5, () -> x.word(5, 0));
        due("LIVE", 7, () -> x.word(6, 0));
        due("bitmap", 4, () -> x.indexWord(1, 1, 1, 0));
        due("no such row", NSEE, () -> x.value(0, 3));
        due("a new row", 3, () -> x.add(99, 3, 0, 0));
        due("is not in the result", 7, () -> x.word(2, 0));
        AlignedRuns y = Made.runs();
        y.turn(0);
        for (int row = 0; row < 65; row++) {
            y.delete(row);
        }
        due("all deleted", 65, y::close);
        due("no words", 0, () -> y.index(0, 1, 0, 1));
        due("no groups", 0, () -> y.told(3));
        due("then many", 20, () -> y.many(20, 1, 0, 0, 0));
        due("bitmap", 0x8002, () -> y.indexWord(0, 1, 0, 0));
        due("result all 0", 0x8002, () -> y.word(0, 0));
    }

    private static void faultyQuestion(String text, int fault, int place) {
        AlignedRuns x = Made.small();
        x.turn(0);
        due("ask '" + text + "'", fault - 10, () -> Made.ask(x, 0, text));
        due("place in '" + text + "'", place, x::fault);
        due("result after '" + text + "'", 31, () -> x.word(0, 0));
        due("tape after '" + text + "'", 0, () -> x.told(6));
        due("cost after '" + text + "'", 0, () -> x.cost(1));
    }

    private static void askingFaults() {
        promise = 8;
        faultyQuestion("", 1, 0);
        faultyQuestion("  ", 1, 2);
        faultyQuestion("le", 1, 2);
        faultyQuestion("le ", 1, 3);
        faultyQuestion("lee(0,1)", 1, 0);
        faultyQuestion("lez(0,1)", 1, 0);
        faultyQuestion("ale(0,1)", 1, 0);
        faultyQuestion("LE(0,1)", 1, 0);
        faultyQuestion("l e(0,1)", 1, 0);
        faultyQuestion("le0(0,1)", 1, 2);
        faultyQuestion("le(2,1)", 2, 3);
        faultyQuestion("le(99999999999,1)", 2, 3);
        faultyQuestion("le(a,1)", 1, 3);
        faultyQuestion("le(,1)", 1, 3);
        faultyQuestion("le(0 2)", 1, 5);
        faultyQuestion("le(0,1000)", 2, 5);
        faultyQuestion("le(0,4294967296)", 2, 5);
        faultyQuestion("le(0,1", 1, 6);
        faultyQuestion("le(0,1,", 1, 6);
        faultyQuestion("le(0,-1)", 1, 5);
        faultyQuestion("in(0,1)", 1, 6);
        faultyQuestion("in(0,1,1000)", 2, 7);
        faultyQuestion("in(0,1000,x)", 2, 5);
        faultyQuestion("and(all())", 1, 9);
        faultyQuestion("or(all() )", 1, 9);
        faultyQuestion("xor(all())", 1, 9);
        faultyQuestion("xor(all(),all(),all())", 1, 15);
        faultyQuestion("less(all(),all(),all())", 1, 16);
        faultyQuestion("or(all(),all(),all(),all(),all())", 3, 26);
        faultyQuestion("and(all(),all(),all(),all() ,", 3, 28);
        faultyQuestion("and(all(),all(),all(),)", 1, 22);
        faultyQuestion("not()", 1, 4);
        faultyQuestion("not(all(),all())", 1, 9);
        faultyQuestion("all(1)", 1, 4);
        faultyQuestion("none(", 1, 5);
        faultyQuestion("result()", 1, 7);
        faultyQuestion("result(6)", 2, 7);
        faultyQuestion("all() x", 1, 6);
        faultyQuestion("all())", 1, 5);
        faultyQuestion("(all())", 1, 0);
        faultyQuestion("not(not(not(not(not(all())))))", 3, 23);
        faultyQuestion("not(not(not(not(not(le (9", 3, 23);
        faultyQuestion("or(or(or(or(or(le(0,1)", 3, 17);
        faultyQuestion("and(none(),xor(none(),less(none(),or(none(),and(none(), none()))))", 3, 52);
        faultyQuestion("not(not(not(not(not(lo(", 1, 20);
        faultyQuestion("all()" + (char) 0, 1, 5);
    }

    private static void dueAnswer(AlignedRuns x, String text, int rows, int word, int... cost) {
        due(text, rows, () -> Made.ask(x, 5, text));
        due("fault of " + text, -1, x::fault);
        due("word of " + text, word, () -> x.word(5, 0));
        for (int what = 0; what < cost.length; what++) {
            int w = what;
            due("cost " + w + " of " + text, cost[w], () -> x.cost(w));
        }
    }

    private static void askingAnswers() {
        AlignedRuns x = Made.small();
        dueAnswer(x, "le(0,37)", 4, 27, 4, 3, 3);
        dueAnswer(x, "le(0,9)", 2, 18, 2, 2, 2);
        dueAnswer(x, "le(0,19)", 2, 18, 3, 3, 3);
        dueAnswer(x, "le(0,90)", 4, 27, 3, 2, 2);
        dueAnswer(x, "le(0,99)", 5, 31, 1, 1, 1);
        dueAnswer(x, "le(0,999)", 5, 31, 1, 1, 1);
        dueAnswer(x, "lt(0,0)", 0, 0x8001, 1, 1, 1);
        dueAnswer(x, "lt(0,38)", 4, 27, 4, 3, 3);
        dueAnswer(x, "ge(0,0)", 5, 31, 1, 2, 2);
        dueAnswer(x, "ge(0,37)", 3, 13, 4, 4, 4);
        dueAnswer(x, "gt(0,37)", 1, 4, 4, 4, 4);
        dueAnswer(x, "eq(0,37)", 2, 9, 5, 4, 4);
        dueAnswer(x, "eq(0,99)", 1, 4, 3, 4, 4);
        dueAnswer(x, "eq(0,100)", 0, 0x8001, 1, 1, 1);
        dueAnswer(x, "ne(0,100)", 5, 31, 1, 2, 2);
        dueAnswer(x, "ne(0,37)", 3, 22, 5, 5, 5);
        dueAnswer(x, "in(0,5,37)", 3, 11, 6, 5, 5);
        dueAnswer(x, "in(0,0,37)", 4, 27, 4, 3, 3);
        dueAnswer(x, "in(0,9,3)", 0, 0x8001, 1, 1, 1);
        dueAnswer(x, "in(0,6,999)", 3, 13, 3, 3, 3);
        dueAnswer(x, "le(1,2)", 4, 27, 4, 3, 3);
        dueAnswer(x, "eq(1,1)", 2, 17, 2, 1, 1);
        dueAnswer(x, "and(all(),le(0,37),eq(1,1))", 2, 17, 5, 5, 5);
        dueAnswer(x, "or(eq(1,0),eq(1,1),eq(1,2),eq(1,3))", 5, 31, 5, 4, 4);
        dueAnswer(x, "less(all(),eq(1,1))", 3, 14, 2, 2, 2);
        dueAnswer(x, "xor(eq(1,1),eq(1,2))", 3, 25, 3, 2, 2);
        dueAnswer(x, "not(not(not(not(all()))))", 5, 31, 1, 5, 5);
        dueAnswer(x, " xor ( result( 05 ) , none ( ) ) ", 5, 31, 2, 2, 2);
        dueAnswer(x, "result(5)", 5, 31, 2, 1, 1);
        dueAnswer(x, "and(all(),and(all(),and(all(),and(all(),in(0,1,37)))))", 3, 11, 6, 9, 9);
        dueAnswer(x, "in(0,37,37)", 2, 9, 7, 6, 6);
        dueAnswer(x, "none()", 0, 0x8001, 1, 1, 1);
        dueAnswer(x, "le(0,19)", 2, 18, 3, 3, 3);
        AlignedRuns z = Made.with("range 6x3 of 18");
        for (int v = 0; v < 15; v++) {
            z.add(v, 0, 0, 0);
        }
        for (int v = 0; v < 15; v++) {
            String number = v + ")";
            dueAnswer(z, "eq(0," + number, 1, 1 << v);
            dueAnswer(z, "le(0," + number, v + 1, v == 14 ? 0xC001 : (2 << v) - 1);
        }
        AlignedRuns y = Made.with("equal 3x4 of 12");
        y.many(15, 11, 0, 0, 0);
        y.many(15, 4, 0, 0, 0);
        y.many(30, 0, 0, 0, 0);
        dueAnswer(y, "le(0,7)", 45, 0x8001, 6, 5, 12);
        dueAnswer(y, "eq(0,4)", 15, 0x8001, 3, 2, 6);
    }

    private static void askingRefusals() {
        AlignedRuns x = Made.small();
        due("LIVE is none of them", NSEE, () -> x.ask(6, 0));
        due("below 0", NSEE, () -> x.ask(-1, 500));
        due("n", IAE, () -> x.ask(0, 1));
        due("n below 0", IAE, () -> x.ask(0, -1));
        for (int i = 0; i < 20; i++) {
            x.feed(0x20202020, 0x20202020, 0x20202020, 0x20202020, 0x20202020);
        }
        due("n beyond 200", IAE, () -> x.ask(0, 201));
        due("tape stays", 400, () -> x.told(6));
        due("200 bytes", -9, () -> x.ask(0, 200));
        due("no tape", 0, () -> x.told(6));
        StringBuilder text = new StringBuilder("all()");
        while (text.length() < 200) {
            text.append(' ');
        }
        due("200 bytes with blanks", 5, () -> Made.ask(x, 0, text.toString()));
    }

    private static void faultyWords(int fault, int place, int... words) {
        AlignedRuns x = Made.runs();
        x.turn(1);
        due("load", fault - 10, () -> Made.load(x, 1, words));
        due("its place", place, x::fault);
        due("result stays", 65, () -> x.result(1, 0));
        due("tape is empty", 0, () -> x.told(6));
    }

    private static void loading() {
        promise = 9;
        faultyWords(7, 4, 0x8002, 0xC002);
        faultyWords(7, 0);
        faultyWords(2, 0, 0);
        faultyWords(2, 0, 32767);
        faultyWords(2, 2, 0x8005, 0);
        faultyWords(3, 0, 0x8000);
        faultyWords(3, 2, 0xC001, 0xC000);
        faultyWords(4, 2, 0x8001, 0x8001);
        faultyWords(4, 2, 0xC001, 0xC009);
        faultyWords(5, 0, 0x8006);
        faultyWords(5, 0, 0xFFFF);
        faultyWords(5, 2, 0x8005, 1);
        faultyWords(5, 2, 0xC004, 0x8002);
        faultyWords(6, 0, 0xC005);
        faultyWords(6, 2, 0x8004, 32);
        faultyWords(6, 2, 0x8004, 0xC001);
        faultyWords(6, 2, 0x8004, 0x4001);
        AlignedRuns x = Made.runs();
        due("words", 32, () -> Made.load(x, 1, 0x8002, 0xC002, 5));
        due("no fault", -1, x::fault);
        due("a word", 0xC002, () -> x.word(1, 1));
        due("none", 0, () -> Made.load(x, 1, 0x8005));
        due("as all", 65, () -> Made.load(x, 1, 0xC004, 31));
        due("alike literals", 15, () -> Made.load(x, 1, 7, 7, 7, 7, 7));
        Check.put(x, new byte[] {(byte) 0x80, 4, 1});
        due("a word of one byte", -9, () -> x.load(1, 3));
        due("its place", 2, x::fault);
        due("n", IAE, () -> x.load(1, 1));
        due("n below 0", IAE, () -> x.load(1, -1));
        due("LIVE", NSEE, () -> x.load(6, -1));
        AlignedRuns sixteen = new AlignedRuns();
        sixteen.many(16, 0, 0, 0, 0);
        due("a last group of one row", 16, () -> Made.load(sixteen, 0, 0xC001, 1));
        due("its other bits", -4, () -> Made.load(sixteen, 0, 0xC001, 2));
        due("a last group that is missing", -3, () -> Made.load(sixteen, 0, 0xC001));
        due("both at once", 16, () -> sixteen.would(1, 0, 6, 0));
        sixteen.delete(15);
        sixteen.close();
        due("fewer rows than before", 0, () -> Made.load(sixteen, 1, 0x8001));
        due("no last row", -1, () -> sixteen.result(1, 5));
        AlignedRuns empty = new AlignedRuns();
        due("no words for no rows", 0, () -> Made.load(empty, 0));
        due("a group that is not", -5, () -> Made.load(empty, 0, 1));
        AlignedRuns long400 = new AlignedRuns();
        for (int i = 0; i < 3; i++) {
            long400.many(400, 0, 0, 0, 0);
        }
        long400.many(300, 0, 0, 0, 0);
        int[] literals = new int[100];
        for (int i = 0; i < 100; i++) {
            literals[i] = 1 + i;
        }
        due("100 literals", 319, () -> Made.load(long400, 0, literals));
        due("as a fill", 1500, () -> Made.load(long400, 0, 0xC000 + 100));
        for (int i = 0; i < 20; i++) {
            long400.feed(0x00010001, 0x00010001, 0x00010001, 0x00010001, 0x00010001);
        }
        due("400 bytes", -5, () -> long400.load(0, 400));
        due("their place", 200, long400::fault);
    }

    private static void faultPlaces() {
        promise = 10;
        AlignedRuns x = Made.with("equal 2 of 2");
        due("without", -1, x::fault);
        Made.ask(x, 0, "all(");
        due("of ask", 4, x::fault);
        due("refused", IAE, () -> x.ask(0, 1));
        due("refused calls leave it", 4, x::fault);
        due("others leave it", 1, () -> x.many(1, 0, 0, 0, 0));
        due("ask's still", 4, x::fault);
        Made.load(x, 0, 0);
        due("of load", 0, x::fault);
        Made.ask(x, 0, "all()");
        due("none again", -1, x::fault);
    }

    private static void logicOfResults() {
        promise = 11;
        AlignedRuns x = Made.small();
        Made.load(x, 0, 3);
        Made.load(x, 1, 6);
        due("AND", 1, () -> x.logic(0, 0, 1, 2));
        due("AND word", 2, () -> x.word(2, 0));
        due("OR", 3, () -> x.logic(1, 0, 1, 2));
        due("OR word", 7, () -> x.word(2, 0));
        due("XOR", 2, () -> x.logic(2, 0, 1, 2));
        due("XOR word", 5, () -> x.word(2, 0));
        due("LESS", 1, () -> x.logic(3, 0, 1, 2));
        due("LESS word", 1, () -> x.word(2, 0));
        due("onto the second", 1, () -> x.logic(3, 0, 1, 1));
        due("its word", 1, () -> x.word(1, 0));
        due("onto the first", 1, () -> x.logic(2, 0, 1, 0));
        due("cost stays", 0, () -> x.cost(1));
        due("kind", IAE, () -> x.logic(4, 0, 1, 2));
        due("kind below 0", IAE, () -> x.logic(-1, 0, 1, 2));
        due("first", NSEE, () -> x.logic(4, 6, 1, 2));
        due("second", NSEE, () -> x.logic(0, 0, 6, 2));
        due("to", NSEE, () -> x.logic(0, 0, 1, 6));
    }

    private static void turning() {
        promise = 12;
        AlignedRuns x = Made.runs();
        due("turn", 65, () -> x.turn(3));
        due("word", 0xC004, () -> x.word(3, 0));
        due("last word", 31, () -> x.word(3, 1));
        due("turn back", 0, () -> x.turn(3));
        due("fill", 0x8005, () -> x.word(3, 0));
        due("LIVE", NSEE, () -> x.turn(6));
        due("below 0", NSEE, () -> x.turn(-1));
        x.delete(0);
        due("deleted rows too", 65, () -> x.turn(3));
    }

    private static void telling() {
        promise = 13;
        AlignedRuns x = Made.runs();
        x.delete(64);
        x.feed(0, 0, 0, 0, 0);
        int[] want = {1, 65, 64, 5, 1, 3, 20};
        for (int what = 0; what < want.length; what++) {
            int w = what;
            due("told(" + w + ")", want[w], () -> x.told(w));
        }
        due("told(7)", IAE, () -> x.told(7));
        due("told(-1)", IAE, () -> x.told(-1));
    }

    private static void columnsTold() {
        promise = 14;
        AlignedRuns x = Made.with("range 4x3 of 9", "equal 5x2 of 10");
        x.many(15, 4, 9, 0, 0);
        x.many(1, 8, 0, 0, 0);
        int[] first = {9, 2, 1, 5, 9};
        int[] second = {10, 2, 0, 7, 11};
        for (int what = 0; what < 5; what++) {
            int w = what;
            due("columnOf(0, " + w + ")", first[w], () -> x.columnOf(0, w));
            due("columnOf(1, " + w + ")", second[w], () -> x.columnOf(1, w));
        }
        due("what", IAE, () -> x.columnOf(0, 5));
        due("what below 0", IAE, () -> x.columnOf(0, -1));
        due("column", NSEE, () -> x.columnOf(2, 9));
        due("column below 0", NSEE, () -> x.columnOf(-1, 0));
    }

    private static void bases() {
        promise = 15;
        AlignedRuns x = Made.with("range 4x3x7 of 9");
        due("base 1", 4, () -> x.base(0, 1));
        due("base 3", 7, () -> x.base(0, 3));
        due("base 0", NSEE, () -> x.base(0, 0));
        due("base 4", NSEE, () -> x.base(0, 4));
        due("column", NSEE, () -> x.base(1, 1));
    }

    private static void indexes() {
        promise = 16;
        AlignedRuns x = Made.runs();
        int[] want = {50, 3, 1, 2, 0, 64};
        for (int what = 0; what < want.length; what++) {
            int w = what;
            due("index what " + w, want[w], () -> x.index(0, 1, 0, w));
        }
        AlignedRuns y = Made.with("equal 2 of 2");
        y.many(3, 1, 0, 0, 0);
        due("no first row", -1, () -> y.index(0, 1, 0, 4));
        due("no last row", -1, () -> y.index(0, 1, 0, 5));
        due("what 6", IAE, () -> x.index(0, 1, 0, 6));
        due("bitmap", NSEE, () -> x.index(0, 1, 1, 6));
        due("bitmap below 0", NSEE, () -> x.index(0, 1, -1, 0));
        due("component", NSEE, () -> x.index(0, 2, 0, 0));
        due("component 0", NSEE, () -> x.index(0, 0, 0, 0));
        due("column", NSEE, () -> x.index(1, 1, 0, 0));
        due("by equal one more", 3, () -> y.index(0, 1, 1, 0));
        due("but not two", NSEE, () -> y.index(0, 1, 2, 0));
    }

    private static void indexWords() {
        promise = 17;
        AlignedRuns x = Made.runs();
        due("word 0", 0xC003, () -> x.indexWord(0, 1, 0, 0));
        due("word 1", 0x8001, () -> x.indexWord(0, 1, 0, 1));
        due("word 2", 31, () -> x.indexWord(0, 1, 0, 2));
        due("word 3", NSEE, () -> x.indexWord(0, 1, 0, 3));
        due("word -1", NSEE, () -> x.indexWord(0, 1, 0, -1));
        due("bitmap", NSEE, () -> x.indexWord(0, 1, 1, 0));
        due("range has them at most", 18, () -> Made.small().indexWord(0, 1, 5, 0));
    }

    private static void resultsTold() {
        promise = 18;
        AlignedRuns x = Made.runs();
        Made.load(x, 1, 0x8002, 0xC001, 3, 9);
        int[] want = {19, 4, 2, 2, 30, 63, 3, 17};
        for (int what = 0; what < want.length; what++) {
            int w = what;
            due("result what " + w, want[w], () -> x.result(1, w));
        }
        int[] none = {0, 1, 0, 1, -1, -1, 0, 0};
        for (int what = 0; what < none.length; what++) {
            int w = what;
            due("none what " + w, none[w], () -> x.result(0, w));
        }
        due("LIVE", 65, () -> x.result(6, 7));
        AlignedRuns full = new AlignedRuns();
        for (int i = 0; i < 4; i++) {
            full.many(375, 0, 0, 0, 0);
        }
        due("last of 1500", 1499, () -> full.result(6, 5));
        due("longest of 1500", 1500, () -> full.result(6, 7));
        full.delete(1498);
        due("one apart at the end", 2, () -> full.result(6, 6));
        AlignedRuns few = Made.small();
        due("last of 5", 4, () -> few.result(6, 5));
        due("what 8", IAE, () -> x.result(0, 8));
        due("what -1", IAE, () -> x.result(0, -1));
        due("result 7", NSEE, () -> x.result(7, 8));
        due("result -1", NSEE, () -> x.result(-1, 0));
    }

    private static void words() {
        promise = 19;
        AlignedRuns x = Made.runs();
        due("of LIVE", 31, () -> x.word(6, 1));
        due("k", NSEE, () -> x.word(6, 2));
        due("k below 0", NSEE, () -> x.word(6, -1));
        due("highest k", NSEE, () -> x.word(6, HIGH));
        due("result", NSEE, () -> x.word(7, 0));
        due("all 0", 0x8005, () -> x.word(5, 0));
    }

    private static void rowsHad() {
        promise = 20;
        AlignedRuns x = Made.runs();
        Made.load(x, 1, 0x8002, 0xC002, 5);
        due("has 29", false, () -> x.has(1, 29));
        due("has 30", true, () -> x.has(1, 30));
        due("has 62", true, () -> x.has(1, 62));
        due("has 64", false, () -> x.has(1, 64));
        due("LIVE", true, () -> x.has(6, 64));
        due("row", NSEE, () -> x.has(1, 65));
        due("row below 0", NSEE, () -> x.has(1, -1));
        due("result", NSEE, () -> x.has(7, 0));
    }

    private static void ranks() {
        promise = 21;
        AlignedRuns x = Made.runs();
        Made.load(x, 1, 0x8002, 0xC002, 5);
        due("rank 0", 0, () -> x.rank(1, 0));
        due("rank 31", 1, () -> x.rank(1, 31));
        due("rank 60", 30, () -> x.rank(1, 60));
        due("rank 65", 32, () -> x.rank(1, 65));
        due("row", IAE, () -> x.rank(1, 66));
        due("row below 0", IAE, () -> x.rank(1, -1));
        due("result", NSEE, () -> x.rank(7, 66));
        due("LIVE", 64, () -> x.rank(6, 64));
    }

    private static void selects() {
        promise = 22;
        AlignedRuns x = Made.runs();
        Made.load(x, 1, 0x8002, 0xC002, 5);
        due("select 0", 30, () -> x.select(1, 0));
        due("select 29", 59, () -> x.select(1, 29));
        due("select 31", 62, () -> x.select(1, 31));
        due("select 32", -1, () -> x.select(1, 32));
        due("below 0", -1, () -> x.select(1, -1));
        due("lowest", -1, () -> x.select(1, LOW));
        due("highest", -1, () -> x.select(1, HIGH));
        due("result", NSEE, () -> x.select(7, 0));
        due("LIVE", 64, () -> x.select(6, 64));
    }

    private static void nexts() {
        promise = 23;
        AlignedRuns x = Made.runs();
        Made.load(x, 1, 0x8002, 0xC002, 5);
        due("next 0", 30, () -> x.next(1, 0));
        due("next 59", 59, () -> x.next(1, 59));
        due("next 61", 62, () -> x.next(1, 61));
        due("next 63", -1, () -> x.next(1, 63));
        due("next 65", -1, () -> x.next(1, 65));
        due("row", IAE, () -> x.next(1, 66));
        due("row below 0", IAE, () -> x.next(1, -1));
        due("result", NSEE, () -> x.next(-1, 0));
        AlignedRuns full = new AlignedRuns();
        for (int i = 0; i < 4; i++) {
            full.many(375, 0, 0, 0, 0);
        }
        due("at 1500", -1, () -> full.next(6, 1500));
        due("at 1499", 1499, () -> full.next(6, 1499));
    }

    private static void woulds() {
        promise = 24;
        AlignedRuns x = Made.runs();
        Made.load(x, 0, 0x8003, 0xC001, 0x8001);
        Made.load(x, 1, 0xC002, 7, 0x8002);
        int[][] want = {{0, 1, 4}, {48, 4, 4}, {48, 4, 4}, {15, 3, 4}};
        for (int kind = 0; kind < 4; kind++) {
            for (int what = 0; what < 3; what++) {
                int k = kind;
                int w = what;
                due("would " + k + " what " + w, want[k][w], () -> x.would(k, 0, 1, w));
            }
        }
        due("of LIVE", 65, () -> x.would(1, 0, 6, 0));
        due("kind", IAE, () -> x.would(4, 0, 6, 0));
        due("kind below 0", IAE, () -> x.would(-1, 0, 6, 0));
        due("what", IAE, () -> x.would(0, 0, 6, 3));
        due("what below 0", IAE, () -> x.would(0, 0, 6, -1));
        due("first", NSEE, () -> x.would(9, 7, 0, 0));
        due("second", NSEE, () -> x.would(9, 0, 7, 0));
        due("nothing changed", 15, () -> x.result(0, 0));
    }

    private static void withins() {
        promise = 25;
        AlignedRuns x = Made.small();
        Made.load(x, 0, 3);
        Made.load(x, 1, 7);
        due("within", true, () -> x.within(0, 1));
        due("not within", false, () -> x.within(1, 0));
        due("itself", true, () -> x.within(1, 1));
        due("none", true, () -> x.within(2, 0));
        due("LIVE", false, () -> x.within(6, 1));
        due("result", NSEE, () -> x.within(7, 0));
        due("other", NSEE, () -> x.within(0, 7));
    }

    private static void costs() {
        promise = 26;
        AlignedRuns x = Made.small();
        due("none yet", 0, () -> x.cost(0));
        Made.ask(x, 0, "gt(0,37)");
        due("READINGS", 4, () -> x.cost(0));
        due("OPS", 4, () -> x.cost(1));
        due("STEPS", 4, () -> x.cost(2));
        Made.ask(x, 0, "gt(0,37");
        x.foretold(0, 0, 99, 0);
        x.logic(0, 0, 0, 1);
        x.turn(1);
        due("stays", 4, () -> x.cost(1));
        due("what", IAE, () -> x.cost(3));
        due("what below 0", IAE, () -> x.cost(-1));
    }

    private static void values() {
        promise = 27;
        AlignedRuns x = Made.small();
        due("value", 99, () -> x.value(0, 2));
        due("other column", 3, () -> x.value(1, 2));
        x.delete(2);
        due("deleted", 99, () -> x.value(0, 2));
        due("row", NSEE, () -> x.value(0, 5));
        due("row below 0", NSEE, () -> x.value(0, -1));
        due("column", NSEE, () -> x.value(2, 0));
    }

    private static void sums() {
        promise = 28;
        AlignedRuns x = Made.small();
        x.turn(0);
        due("LIVE", 178, () -> x.sum(0, 6));
        x.delete(2);
        due("LIVE less one", 79, () -> x.sum(0, 6));
        due("a result keeps it", 178, () -> x.sum(0, 0));
        due("none", 0, () -> x.sum(0, 1));
        due("column", NSEE, () -> x.sum(2, 0));
        due("result", NSEE, () -> x.sum(0, 7));
        AlignedRuns most = Made.with("equal 200 of 200");
        for (int i = 0; i < 4; i++) {
            most.many(375, 199, 0, 0, 0);
        }
        due("the greatest one", 298500, () -> most.sum(0, 6));
    }

    private static void kths() {
        promise = 29;
        AlignedRuns x = Made.small();
        int[] want = {0, 5, 37, 37, 99, -1};
        for (int k = 0; k < want.length; k++) {
            int i = k;
            due("kth " + i, want[i], () -> x.kth(0, 6, i));
        }
        due("below 0", -1, () -> x.kth(0, 6, -1));
        due("highest", -1, () -> x.kth(0, 6, HIGH));
        due("none", -1, () -> x.kth(0, 0, 0));
        due("column", NSEE, () -> x.kth(2, 6, 0));
        due("result", NSEE, () -> x.kth(0, 7, -1));
    }

    private static void modes() {
        promise = 30;
        AlignedRuns x = Made.small();
        due("mode", 37, () -> x.mode(0, 6, 0));
        due("how many", 2, () -> x.mode(0, 6, 1));
        x.delete(3);
        due("the least of alike ones", 0, () -> x.mode(0, 6, 0));
        due("once", 1, () -> x.mode(0, 6, 1));
        due("none", -1, () -> x.mode(0, 0, 0));
        due("none's count", 0, () -> x.mode(0, 0, 1));
        due("what", IAE, () -> x.mode(0, 0, 2));
        due("what below 0", IAE, () -> x.mode(0, 0, -1));
        due("column", NSEE, () -> x.mode(2, 0, 2));
        due("result", NSEE, () -> x.mode(0, 7, 2));
    }

    private static void unlikes() {
        promise = 31;
        AlignedRuns x = Made.small();
        due("unlike", 4, () -> x.unlike(0, 6));
        due("none", 0, () -> x.unlike(0, 0));
        due("column", NSEE, () -> x.unlike(-1, 0));
        due("result", NSEE, () -> x.unlike(0, -1));
    }

    private static void spans() {
        promise = 32;
        AlignedRuns x = Made.small();
        due("span", 3, () -> x.span(0, 6, 5, 37));
        due("one value", 2, () -> x.span(0, 6, 37, 37));
        due("turned round", 0, () -> x.span(0, 6, 37, 5));
        due("to 999", 5, () -> x.span(0, 6, 0, 999));
        due("beyond all", 0, () -> x.span(0, 6, 999, 999));
        due("to 0", 1, () -> x.span(0, 6, 0, 0));
        due("high", IAE, () -> x.span(0, 6, 0, 1000));
        due("low", IAE, () -> x.span(0, 6, -1, 5));
        due("both", IAE, () -> x.span(0, 6, 1000, -1));
        due("column", NSEE, () -> x.span(2, 6, 0, 1000));
        due("result", NSEE, () -> x.span(0, 7, 0, 1000));
    }

    private static void foretolds() {
        promise = 33;
        String[] kinds = {"le", "lt", "ge", "gt", "eq", "ne"};
        for (int kind = 0; kind < 6; kind++) {
            AlignedRuns y = Made.small();
            for (int n : new int[] {0, 9, 37, 90, 98, 99, 100, 999}) {
                for (int what = 0; what < 3; what++) {
                    int k = kind;
                    int w = what;
                    Made.ask(y, 0, kinds[k] + "(0," + n + ")");
                    due("foretold " + kinds[k] + " " + n, y.cost(w), () -> y.foretold(k, 0, n, w));
                }
            }
        }
        AlignedRuns x = Made.small();
        due("eq 37 READINGS", 5, () -> x.foretold(4, 0, 37, 0));
        Made.ask(x, 0, "all(");
        due("behind a fault", 4, () -> x.foretold(4, 0, 37, 1));
        due("the fault stays", 4, x::fault);
        due("kind", IAE, () -> x.foretold(6, 0, 0, 0));
        due("kind below 0", IAE, () -> x.foretold(-1, 0, 0, 0));
        due("n", IAE, () -> x.foretold(0, 0, 1000, 0));
        due("n below 0", IAE, () -> x.foretold(0, 0, -1, 0));
        due("what", IAE, () -> x.foretold(0, 0, 0, 3));
        due("column", NSEE, () -> x.foretold(9, 2, -1, 3));
    }

    private static void differs() {
        promise = 34;
        AlignedRuns x = Made.small();
        Made.load(x, 0, 3);
        Made.load(x, 1, 6);
        due("differ", 2, () -> x.differ(0, 1));
        due("LIVE", 3, () -> x.differ(6, 1));
        due("itself", 0, () -> x.differ(1, 1));
        due("result", NSEE, () -> x.differ(7, 1));
        due("other", NSEE, () -> x.differ(1, -1));
    }

    private static void groups() {
        promise = 35;
        AlignedRuns x = Made.runs();
        Made.load(x, 0, 9, 0xC002, 0x8002);
        int[][] want = {{9, 1, 0}, {32767, 2, 1}, {32767, 2, 1}, {0, 2, 2}, {0, 2, 2}};
        for (int k = 0; k < 5; k++) {
            for (int what = 0; what < 3; what++) {
                int i = k;
                int w = what;
                due("group " + i + " what " + w, want[i][w], () -> x.group(0, i, w));
            }
        }
        due("of LIVE", 31, () -> x.group(6, 4, 0));
        due("k", NSEE, () -> x.group(0, 5, 3));
        due("k below 0", NSEE, () -> x.group(0, -1, 0));
        due("what", IAE, () -> x.group(0, 0, 3));
        due("what below 0", IAE, () -> x.group(0, 0, -1));
        due("result", NSEE, () -> x.group(7, 0, 0));
    }

    private static void widests() {
        promise = 36;
        AlignedRuns x = Made.runs();
        Made.load(x, 0, 9, 0xC001, 0x8003);
        due("widest", 3, () -> x.widest(0));
        Made.load(x, 0, 9, 9, 9, 9, 9);
        due("without fills", 0, () -> x.widest(0));
        due("LIVE", 4, () -> x.widest(6));
        due("result", NSEE, () -> x.widest(7));
        due("no rows", 0, () -> new AlignedRuns().widest(6));
    }

    private static void heaviests() {
        promise = 37;
        AlignedRuns x = Made.with("range 2x4 of 8", "equal 3x3 of 9");
        due("no rows: the first", 1, () -> x.heaviest(0, 0));
        due("no rows: no words", 0, () -> x.heaviest(0, 1));
        x.many(15, 3, 8, 0, 0);
        x.many(15, 4, 8, 0, 0);
        due("heaviest", 2, () -> x.heaviest(0, 0));
        due("its words", 4, () -> x.heaviest(0, 1));
        due("the first of alike ones", 1, () -> x.heaviest(1, 0));
        due("their words", 3, () -> x.heaviest(1, 1));
        due("what", IAE, () -> x.heaviest(0, 2));
        due("what below 0", IAE, () -> x.heaviest(0, -1));
        due("column", NSEE, () -> x.heaviest(2, 2));
    }

    private static void ordereds() {
        promise = 38;
        AlignedRuns x = Made.with("equal 2 of 2", "range 3 of 3");
        for (int i = 0; i < 30; i++) {
            x.add(i % 2, i / 10, 0, 0);
        }
        due("as they are", 4, () -> x.columnOf(0, 4));
        due("by itself", 4, () -> x.ordered(0, 0));
        due("by the other", 4, () -> x.ordered(0, 1));
        due("the other by itself", 4, () -> x.ordered(1, 1));
        x.delete(0);
        due("deleted ones too", 4, () -> x.ordered(0, 0));
        due("rows stay", 1, () -> x.value(0, 1));
        due("column", NSEE, () -> x.ordered(2, 0));
        due("by", NSEE, () -> x.ordered(0, 2));
        AlignedRuns y = Made.with("equal 2 of 2", "equal 2 of 2");
        for (int i = 0; i < 60; i++) {
            y.add(i / 15 % 2, i / 30, 0, 0);
        }
        due("before", 8, () -> y.columnOf(0, 4));
        due("in order", 4, () -> y.ordered(0, 0));
        due("alike ones as they are", 8, () -> y.ordered(0, 1));
    }

    private static void readingsTold() {
        promise = 39;
        AlignedRuns x = Made.with("range 10x10 of 100", "equal 4 of 4", "equal 3x4 of 11", "range 2x2x2 of 8");
        int[][] want = {{269, 3}, {6, 3}, {41, 6}, {18, 3}};
        for (int c = 0; c < 4; c++) {
            int i = c;
            due("all of " + i, want[i][0], () -> x.readings(i, 0));
            due("most of " + i, want[i][1], () -> x.readings(i, 1));
        }
        due("what", IAE, () -> x.readings(0, 2));
        due("what below 0", IAE, () -> x.readings(0, -1));
        due("column", NSEE, () -> x.readings(4, 2));
    }

    private static void thrifts() {
        promise = 40;
        AlignedRuns x = new AlignedRuns();
        int[][] cases = {{100, 2, 18, 10, 10, -1, -1}, {200, 1, 199, 200, -1, -1, -1}, {2, 4, 4, 2, 2, 2, 2},
            {200, 4, 12, 2, 4, 5, 5}, {12, 2, 5, 3, 4, -1, -1}, {8, 3, 3, 2, 2, 2, -1}};
        for (int[] c : cases) {
            for (int what = 0; what <= 4; what++) {
                int w = what;
                due("thrift " + c[0] + " " + c[1] + " what " + w, c[2 + w], () -> x.thrift(c[0], c[1], w));
            }
        }
        due("card 1", IAE, () -> x.thrift(1, 1, 0));
        due("card 201", IAE, () -> x.thrift(201, 1, 0));
        due("no components", IAE, () -> x.thrift(100, 0, 0));
        due("5 components", IAE, () -> x.thrift(100, 5, 0));
        due("what 5", IAE, () -> x.thrift(100, 1, 5));
        due("what -1", IAE, () -> x.thrift(100, 1, -1));
    }

    private static void swifts() {
        promise = 41;
        AlignedRuns x = new AlignedRuns();
        int[][] cases = {{4, 3, 3, 4, -1, -1, -1}, {4, 2, 5, 2, 2, -1, -1}, {4, 1, -1, -1, -1, -1, -1},
            {2, 24, 1, 2, -1, -1, -1}, {25, 24, 24, 25, -1, -1, -1}, {200, 11, -1, -1, -1, -1, -1},
            {200, 12, 977, 5, 2, 4, 5}, {26, 24, 49, 13, 2, -1, -1}, {16, 4, 53, 2, 2, 2, 2}};
        for (int[] c : cases) {
            for (int what = 0; what <= 4; what++) {
                int w = what;
                due("swift " + c[0] + " " + c[1] + " what " + w, c[2 + w], () -> x.swift(c[0], c[1], w));
            }
        }
        due("card 1", IAE, () -> x.swift(1, 1, 0));
        due("card 201", IAE, () -> x.swift(201, 1, 0));
        due("no bitmaps", IAE, () -> x.swift(4, 0, 0));
        due("25 bitmaps", IAE, () -> x.swift(4, 25, 0));
        due("what 5", IAE, () -> x.swift(4, 1, 5));
        due("what -1", IAE, () -> x.swift(4, 1, -1));
    }

    private static void statuses() {
        promise = 42;
        AlignedRuns x = new AlignedRuns();
        due("NSEE at first", 0, () -> x.status(0));
        due("a refusal", NSEE, () -> x.value(0, 0));
        due("a refusal", NSEE, () -> x.group(7, 0, 9));
        due("a refusal", IAE, () -> x.told(9));
        x.many(400, 0, 0, 0, 0);
        due("a refusal", ISE, () -> x.column(0));
        due("a refusal", ISE, () -> x.column(0));
        due("a refusal", ISE, () -> x.column(0));
        due("a fault", -9, () -> x.ask(0, 0));
        due("NSEE", 2, () -> x.status(0));
        due("IAE", 1, () -> x.status(1));
        due("ISE", 3, () -> x.status(2));
        due("others", -1, () -> x.status(3));
        due("below 0", -1, () -> x.status(-1));
    }
}
