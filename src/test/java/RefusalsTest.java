import java.lang.reflect.Method;
import java.lang.reflect.Modifier;
import java.util.Arrays;
import java.util.Map;
import java.util.Set;
import java.util.TreeMap;
import java.util.TreeSet;
import java.util.function.Function;
import java.util.function.Supplier;

/**
 * Every refusal of the face: which exception it is, which one comes first where two would fit, that status counts just
 * that one, and that the tape, the columns, the rows, the results, cost and fault are behind it as they were ahead of it.
 * A text with a fault is no refusal: it empties the tape and tells the fault's place, and all else is as it was.
 */
public final class RefusalsTest {
    private static final String NSEE = "NoSuchElementException";
    private static final String IAE = "IllegalArgumentException";
    private static final String ISE = "IllegalStateException";
    private static final int LOW = Integer.MIN_VALUE;
    private static final int HIGH = Integer.MAX_VALUE;
    private static final String ON_TAPE = "or(result(1),not(none()))";

    /** Which exceptions of which call of the face have been tested. */
    private static final Map<String, Set<String>> TESTED = new TreeMap<>();

    private static Supplier<AlignedRuns> state = RefusalsTest::some;
    private static String call = "";

    public static void main(String[] args) {
        columns();
        rowsAppended();
        rowsDeleted();
        questions();
        loads();
        logics();
        columnsTold();
        resultsTold();
        rowsOfResults();
        twoResults();
        valuesOfRows();
        valuesOfResults();
        foretolds();
        groups();
        basesSought();
        othersTold();
        allOfTheFace();
        columnFaults();
        questionFaults();
        wordFaults();
        Check.end("RefusalsTest");
    }

    // The states that are refused in. Each has a question on the tape, a fault and a cost behind it.

    private static AlignedRuns settled(AlignedRuns x) {
        Made.ask(x, 1, "or(none(),not(none()))");
        Made.ask(x, 2, "not(all()");
        Check.put(x, Check.bytesOf(ON_TAPE));
        return x;
    }

    /** Six rows of three components' digits; then rows enough for a fill, one of them deleted. */
    private static AlignedRuns some() {
        AlignedRuns x = Made.with("range 3x2 of 6", "equal 2 of 2");
        for (int v = 0; v < 6; v++) {
            x.add(v, v / 3, 0, 0);
        }
        x.many(30, 4, 1, 0, 0);
        x.delete(20);
        return settled(x);
    }

    private static AlignedRuns empty() {
        return settled(new AlignedRuns());
    }

    private static AlignedRuns fourColumns() {
        return settled(Made.with("range 3 of 3", "equal 2 of 2", "range 2x2 of 3", "equal 2x3 of 5"));
    }

    private static AlignedRuns full() {
        AlignedRuns x = Made.with("range 3x2 of 6");
        Made.grown(x, 1499);
        x.add(5, 0, 0, 0);
        x.delete(700);
        return settled(x);
    }

    /** Four columns and a row: of column's two reasons each would do. */
    private static AlignedRuns fourColumnsAndARow() {
        AlignedRuns x = Made.with("range 3 of 3", "equal 2 of 2", "range 2x2 of 3", "equal 2x3 of 5");
        x.add(2, 1, 2, 4);
        return settled(x);
    }

    private static AlignedRuns fullTape() {
        AlignedRuns x = some();
        for (int i = 0; i < 18; i++) {
            x.feed(0x20202020, 0x20202020, 0x20202020, 0x20202020, 0x20202020);
        }
        return x;
    }

    /** Everything that can be asked of an object's state, but for what its tape says. */
    private static String told(AlignedRuns x) {
        return indexTold(x) + "\nfault " + x.fault() + " tape " + x.told(6);
    }

    private static String indexTold(AlignedRuns x) {
        StringBuilder told = new StringBuilder();
        for (int what = 0; what <= 5; what++) {
            told.append(x.told(what)).append(' ');
        }
        for (int c = 0; c < x.told(0); c++) {
            told.append("\ncolumn ");
            for (int what = 0; what <= 4; what++) {
                told.append(x.columnOf(c, what)).append(' ');
            }
            appendBitmaps(told, x, c);
        }
        for (int r = 0; r <= 6; r++) {
            told.append("\nresult ");
            for (int k = 0; k < x.result(r, 1); k++) {
                told.append(x.word(r, k)).append(' ');
            }
        }
        return told.append("\ncost ").append(x.cost(0)).append(' ').append(x.cost(1)).append(' ').append(x.cost(2)).toString();
    }

    private static void appendBitmaps(StringBuilder told, AlignedRuns x, int c) {
        for (int component = 1; component <= x.columnOf(c, 1); component++) {
            int base = x.base(c, component);
            told.append(" base ").append(base);
            for (int j = 0; j < base - x.columnOf(c, 2); j++) {
                for (int k = 0; k < x.index(c, component, j, 1); k++) {
                    told.append(' ').append(x.indexWord(c, component, j, k));
                }
            }
        }
        for (int row = 0; row < x.told(1); row += 1 + x.told(1) / 20) {
            told.append(" value ").append(x.value(c, row));
        }
    }

    /** What a question that stands on the tape is answered, and what it takes. */
    private static String answered(AlignedRuns x) {
        int rows = x.ask(3, ON_TAPE.length());
        return rows + " " + x.cost(0) + " " + x.cost(1) + " " + x.cost(2) + " " + x.result(3, 1);
    }

    private static void refused(String exception, Function<AlignedRuns, Object> asked, String arguments) {
        TESTED.computeIfAbsent(call, key -> new TreeSet<>()).add(exception);
        String what = call + "(" + arguments + ")";
        AlignedRuns x = state.get();
        String before = told(x);
        int[] counts = {x.status(0), x.status(1), x.status(2)};
        Check.due(what, exception, () -> asked.apply(x));
        Check.due(what + " leaves all", before, Check.answerOf(() -> told(x)));
        String[] kinds = {NSEE, IAE, ISE};
        for (int i = 0; i < kinds.length; i++) {
            int which = i;
            int due = counts[i] + (kinds[i].equals(exception) ? 1 : 0);
            Check.due(what + " in status(" + which + ")", due, () -> x.status(which));
        }
        Check.due(what + " leaves the tape", answered(state.get()), Check.answerOf(() -> answered(x)));
    }

    private static void in(Supplier<AlignedRuns> where) {
        state = where;
    }

    private static void columns() {
        call = "column";
        in(RefusalsTest::empty);
        refused(IAE, x -> x.column(-1), "below 0");
        refused(IAE, x -> x.column(41), "one more than the tape has");
        refused(IAE, x -> x.column(LOW), "lowest");
        refused(IAE, x -> x.column(HIGH), "highest");
        in(RefusalsTest::fullTape);
        refused(IAE, x -> x.column(201), "201 of 400, with rows");
        refused(IAE, x -> x.column(401), "401 of 400, with rows");
        in(RefusalsTest::some);
        refused(ISE, x -> x.column(0), "0, with rows");
        refused(ISE, x -> x.column(40), "all the tape, with rows");
        refused(IAE, x -> x.column(41), "too many, with rows");
        refused(IAE, x -> x.column(-1), "below 0, with rows");
        in(RefusalsTest::fourColumns);
        refused(ISE, x -> x.column(0), "0, with four columns");
        refused(ISE, x -> x.column(40), "all the tape, with four columns");
        refused(IAE, x -> x.column(41), "too many, with four columns");
        refused(IAE, x -> x.column(-1), "below 0, with four columns");
        in(RefusalsTest::fourColumnsAndARow);
        refused(ISE, x -> x.column(25), "with four columns and a row");
        refused(IAE, x -> x.column(201), "too many, with four columns and a row");
    }

    private static void rowsAppended() {
        in(RefusalsTest::some);
        call = "add";
        refused(IAE, x -> x.add(6, 0, 0, 0), "first value at its card");
        refused(IAE, x -> x.add(0, 2, 0, 0), "second value at its card");
        refused(IAE, x -> x.add(-1, 0, 0, 0), "first value below 0");
        refused(IAE, x -> x.add(0, -1, 0, 0), "second value below 0");
        refused(IAE, x -> x.add(LOW, HIGH, 0, 0), "both far off");
        call = "many";
        refused(IAE, x -> x.many(0, 0, 0, 0, 0), "no rows");
        refused(IAE, x -> x.many(-1, 0, 0, 0, 0), "below 0");
        refused(IAE, x -> x.many(401, 0, 0, 0, 0), "401 rows");
        refused(IAE, x -> x.many(LOW, 0, 0, 0, 0), "lowest");
        refused(IAE, x -> x.many(HIGH, 0, 0, 0, 0), "highest");
        refused(IAE, x -> x.many(1, 6, 0, 0, 0), "first value at its card");
        refused(IAE, x -> x.many(1, 0, 2, 0, 0), "second value at its card");
        refused(IAE, x -> x.many(400, 0, -1, 0, 0), "second value below 0");
        in(RefusalsTest::fourColumns);
        call = "add";
        refused(IAE, x -> x.add(0, 0, 3, 0), "third value at its card");
        refused(IAE, x -> x.add(0, 0, 0, 5), "fourth value at its card");
        refused(IAE, x -> x.add(0, 0, 0, -1), "fourth value below 0");
        call = "many";
        refused(IAE, x -> x.many(1, 0, 0, 3, 0), "third value at its card");
        refused(IAE, x -> x.many(1, 0, 0, 0, 5), "fourth value at its card");
        in(RefusalsTest::full);
        call = "add";
        refused(ISE, x -> x.add(0, 0, 0, 0), "full");
        refused(IAE, x -> x.add(6, 0, 0, 0), "full, and a value at its card");
        call = "many";
        refused(ISE, x -> x.many(1, 0, 0, 0, 0), "full");
        refused(ISE, x -> x.many(400, 0, 0, 0, 0), "400 when full");
        refused(IAE, x -> x.many(401, 0, 0, 0, 0), "401 when full");
        refused(IAE, x -> x.many(0, 0, 0, 0, 0), "none when full");
        refused(IAE, x -> x.many(1, -1, 0, 0, 0), "full, and a value below 0");
        in(() -> settled(Made.rows(1101)));
        refused(ISE, x -> x.many(400, 0, 0, 0, 0), "one too many, by 400");
    }

    private static void rowsDeleted() {
        call = "delete";
        in(RefusalsTest::empty);
        refused(NSEE, x -> x.delete(0), "0 of none");
        in(RefusalsTest::some);
        refused(NSEE, x -> x.delete(20), "a deleted one");
        refused(NSEE, x -> x.delete(36), "one behind the last");
        refused(NSEE, x -> x.delete(-1), "below 0");
        refused(NSEE, x -> x.delete(LOW), "lowest");
        refused(NSEE, x -> x.delete(HIGH), "highest");
        in(RefusalsTest::full);
        refused(NSEE, x -> x.delete(1500), "1,500");
        refused(NSEE, x -> x.delete(700), "a deleted one of many");
    }

    private static void questions() {
        call = "ask";
        in(RefusalsTest::some);
        refused(NSEE, x -> x.ask(6, 0), "LIVE");
        refused(NSEE, x -> x.ask(-1, 0), "result -1");
        refused(NSEE, x -> x.ask(HIGH, HIGH), "both far off");
        refused(NSEE, x -> x.ask(6, 41), "LIVE, and too many bytes");
        refused(NSEE, x -> x.ask(LOW, -1), "lowest result, and bytes below 0");
        refused(IAE, x -> x.ask(0, 41), "too many bytes");
        refused(IAE, x -> x.ask(5, -1), "bytes below 0");
        refused(IAE, x -> x.ask(0, LOW), "lowest");
        refused(IAE, x -> x.ask(0, HIGH), "highest");
        in(RefusalsTest::fullTape);
        refused(IAE, x -> x.ask(0, 201), "201 of 400 bytes");
        refused(IAE, x -> x.ask(0, 400), "400 of 400 bytes");
        refused(NSEE, x -> x.ask(6, 201), "LIVE, and 201 bytes");
    }

    private static void loads() {
        call = "load";
        in(RefusalsTest::some);
        refused(NSEE, x -> x.load(6, 0), "LIVE");
        refused(NSEE, x -> x.load(-1, 0), "result -1");
        refused(NSEE, x -> x.load(6, -1), "LIVE, and bytes below 0");
        refused(NSEE, x -> x.load(HIGH, HIGH), "both far off");
        refused(IAE, x -> x.load(0, 41), "too many bytes");
        refused(IAE, x -> x.load(5, -1), "bytes below 0");
        refused(IAE, x -> x.load(0, LOW), "lowest");
        refused(IAE, x -> x.load(0, HIGH), "highest");
        in(RefusalsTest::fullTape);
        refused(IAE, x -> x.load(0, 401), "401 of 400 bytes");
    }

    private static void logics() {
        call = "logic";
        in(RefusalsTest::some);
        refused(NSEE, x -> x.logic(0, 6, 1, 2), "LIVE first");
        refused(NSEE, x -> x.logic(0, 1, 6, 2), "LIVE second");
        refused(NSEE, x -> x.logic(0, 1, 2, 6), "LIVE to");
        refused(NSEE, x -> x.logic(0, -1, 1, 2), "first below 0");
        refused(NSEE, x -> x.logic(0, 1, -1, 2), "second below 0");
        refused(NSEE, x -> x.logic(0, 1, 2, -1), "to below 0");
        refused(NSEE, x -> x.logic(4, 6, 1, 2), "LIVE first, and no such logic");
        refused(NSEE, x -> x.logic(4, 1, 6, 2), "LIVE second, and no such logic");
        refused(NSEE, x -> x.logic(-1, 1, 2, 6), "LIVE to, and no such logic");
        refused(IAE, x -> x.logic(4, 0, 1, 2), "kind 4");
        refused(IAE, x -> x.logic(-1, 0, 1, 2), "kind -1");
        refused(IAE, x -> x.logic(HIGH, 5, 5, 5), "highest kind");
        call = "turn";
        refused(NSEE, x -> x.turn(6), "LIVE");
        refused(NSEE, x -> x.turn(-1), "below 0");
        refused(NSEE, x -> x.turn(HIGH), "highest");
    }

    private static void columnsTold() {
        in(RefusalsTest::some);
        call = "columnOf";
        refused(NSEE, x -> x.columnOf(2, 0), "column 2");
        refused(NSEE, x -> x.columnOf(-1, 0), "column -1");
        refused(NSEE, x -> x.columnOf(2, 5), "column 2, what 5");
        refused(IAE, x -> x.columnOf(1, 5), "what 5");
        refused(IAE, x -> x.columnOf(0, -1), "what -1");
        call = "base";
        refused(NSEE, x -> x.base(2, 1), "column 2");
        refused(NSEE, x -> x.base(-1, 1), "column -1");
        refused(NSEE, x -> x.base(0, 0), "component 0");
        refused(NSEE, x -> x.base(0, 3), "component 3");
        refused(NSEE, x -> x.base(1, 2), "component 2 of the other one");
        refused(NSEE, x -> x.base(0, LOW), "lowest component");
        refused(NSEE, x -> x.base(HIGH, HIGH), "highest");
        call = "index";
        noBitmap((x, at) -> x.index(at[0], at[1], at[2], 0), "");
        noBitmap((x, at) -> x.index(at[0], at[1], at[2], 6), ", and what 6");
        refused(IAE, x -> x.index(0, 1, 1, 6), "what 6");
        refused(IAE, x -> x.index(1, 1, 1, -1), "what -1");
        call = "indexWord";
        noBitmap((x, at) -> x.indexWord(at[0], at[1], at[2], 0), "");
        refused(NSEE, x -> x.indexWord(1, 1, 0, 2), "word 2 of 2");
        refused(NSEE, x -> x.indexWord(1, 1, 0, -1), "word -1");
        refused(NSEE, x -> x.indexWord(1, 1, 0, HIGH), "highest word");
        in(RefusalsTest::fourColumns);
        refused(NSEE, x -> x.indexWord(0, 1, 0, 0), "word 0 without rows");
        call = "base";
        refused(NSEE, x -> x.base(4, 1), "column 4");
        in(RefusalsTest::empty);
        refused(NSEE, x -> x.base(0, 1), "without columns");
        call = "columnOf";
        refused(NSEE, x -> x.columnOf(0, 0), "without columns");
    }

    private interface OfBitmap {
        Object answer(AlignedRuns x, int... at);
    }

    private static void noBitmap(OfBitmap asked, String also) {
        refused(NSEE, x -> asked.answer(x, 2, 1, 0), "column 2" + also);
        refused(NSEE, x -> asked.answer(x, -1, 1, 0), "column -1" + also);
        refused(NSEE, x -> asked.answer(x, 0, 0, 0), "component 0" + also);
        refused(NSEE, x -> asked.answer(x, 0, 3, 0), "component 3" + also);
        refused(NSEE, x -> asked.answer(x, 0, 1, 2), "bitmap 2 of base 3 by range" + also);
        refused(NSEE, x -> asked.answer(x, 0, 2, 1), "bitmap 1 of base 2 by range" + also);
        refused(NSEE, x -> asked.answer(x, 1, 1, 2), "bitmap 2 of base 2 by equal" + also);
        refused(NSEE, x -> asked.answer(x, 0, 2, -1), "bitmap -1" + also);
        refused(NSEE, x -> asked.answer(x, HIGH, HIGH, HIGH), "highest" + also);
        refused(NSEE, x -> asked.answer(x, 0, 1, HIGH), "highest bitmap" + also);
        refused(NSEE, x -> asked.answer(x, 0, LOW, LOW), "lowest" + also);
    }

    private static void resultsTold() {
        in(RefusalsTest::some);
        call = "result";
        refused(NSEE, x -> x.result(7, 0), "result 7");
        refused(NSEE, x -> x.result(-1, 0), "result -1");
        refused(NSEE, x -> x.result(7, 8), "result 7, what 8");
        refused(IAE, x -> x.result(6, 8), "what 8");
        refused(IAE, x -> x.result(0, -1), "what -1");
        call = "word";
        refused(NSEE, x -> x.word(7, 0), "result 7");
        refused(NSEE, x -> x.word(-1, 0), "result -1");
        refused(NSEE, x -> x.word(6, 3), "word 3 of 3");
        refused(NSEE, x -> x.word(0, 1), "word 1 of 1");
        refused(NSEE, x -> x.word(0, -1), "word -1");
        refused(NSEE, x -> x.word(0, HIGH), "highest word");
        call = "widest";
        refused(NSEE, x -> x.widest(7), "result 7");
        refused(NSEE, x -> x.widest(-1), "result -1");
        in(RefusalsTest::empty);
        call = "word";
        refused(NSEE, x -> x.word(6, 0), "word 0 without rows");
    }

    private static void rowsOfResults() {
        in(RefusalsTest::some);
        call = "has";
        refused(NSEE, x -> x.has(7, 0), "result 7");
        refused(NSEE, x -> x.has(-1, 0), "result -1");
        refused(NSEE, x -> x.has(0, 36), "row 36 of 36");
        refused(NSEE, x -> x.has(0, -1), "row -1");
        refused(NSEE, x -> x.has(6, HIGH), "highest row");
        call = "rank";
        refused(NSEE, x -> x.rank(7, 0), "result 7");
        refused(NSEE, x -> x.rank(-1, 37), "result -1, row 37");
        refused(NSEE, x -> x.rank(7, -1), "result 7, row -1");
        refused(IAE, x -> x.rank(0, 37), "row 37 of 36");
        refused(IAE, x -> x.rank(6, -1), "row -1");
        refused(IAE, x -> x.rank(6, HIGH), "highest row");
        call = "select";
        refused(NSEE, x -> x.select(7, 0), "result 7");
        refused(NSEE, x -> x.select(-1, -1), "result -1, k -1");
        call = "next";
        refused(NSEE, x -> x.next(7, 0), "result 7");
        refused(NSEE, x -> x.next(-1, 37), "result -1, row 37");
        refused(NSEE, x -> x.next(7, -1), "result 7, row -1");
        refused(IAE, x -> x.next(0, 37), "row 37 of 36");
        refused(IAE, x -> x.next(6, -1), "row -1");
        refused(IAE, x -> x.next(6, LOW), "lowest row");
        in(RefusalsTest::full);
        refused(IAE, x -> x.next(6, 1501), "row 1,501");
        call = "rank";
        refused(IAE, x -> x.rank(6, 1501), "row 1,501");
        call = "has";
        refused(NSEE, x -> x.has(6, 1500), "row 1,500");
        in(RefusalsTest::empty);
        refused(NSEE, x -> x.has(6, 0), "row 0 of none");
    }

    private static void twoResults() {
        in(RefusalsTest::some);
        call = "would";
        refused(NSEE, x -> x.would(0, 7, 0, 0), "first 7");
        refused(NSEE, x -> x.would(0, 0, 7, 0), "second 7");
        refused(NSEE, x -> x.would(0, -1, 0, 0), "first -1");
        refused(NSEE, x -> x.would(0, 0, -1, 0), "second -1");
        refused(NSEE, x -> x.would(4, 7, 0, 0), "first 7, kind 4");
        refused(NSEE, x -> x.would(0, 0, 7, 3), "second 7, what 3");
        refused(IAE, x -> x.would(4, 0, 6, 0), "kind 4");
        refused(IAE, x -> x.would(-1, 0, 6, 0), "kind -1");
        refused(IAE, x -> x.would(4, 0, 6, 2), "kind 4, for steps");
        refused(IAE, x -> x.would(3, 6, 6, 3), "what 3");
        refused(IAE, x -> x.would(0, 0, 0, -1), "what -1");
        call = "within";
        refused(NSEE, x -> x.within(7, 0), "first 7");
        refused(NSEE, x -> x.within(0, 7), "second 7");
        refused(NSEE, x -> x.within(-1, 0), "first -1");
        refused(NSEE, x -> x.within(0, -1), "second -1");
        call = "differ";
        refused(NSEE, x -> x.differ(7, 0), "first 7");
        refused(NSEE, x -> x.differ(0, 7), "second 7");
        refused(NSEE, x -> x.differ(-1, 0), "first -1");
        refused(NSEE, x -> x.differ(0, -1), "second -1");
    }

    private static void valuesOfRows() {
        in(RefusalsTest::some);
        call = "value";
        refused(NSEE, x -> x.value(2, 0), "column 2");
        refused(NSEE, x -> x.value(-1, 0), "column -1");
        refused(NSEE, x -> x.value(1, 36), "row 36 of 36");
        refused(NSEE, x -> x.value(1, -1), "row -1");
        refused(NSEE, x -> x.value(0, HIGH), "highest row");
        call = "heaviest";
        refused(NSEE, x -> x.heaviest(2, 0), "column 2");
        refused(NSEE, x -> x.heaviest(-1, 2), "column -1, what 2");
        refused(IAE, x -> x.heaviest(0, 2), "what 2");
        refused(IAE, x -> x.heaviest(0, -1), "what -1");
        call = "readings";
        refused(NSEE, x -> x.readings(2, 0), "column 2");
        refused(NSEE, x -> x.readings(-1, 2), "column -1, what 2");
        refused(IAE, x -> x.readings(0, 2), "what 2");
        refused(IAE, x -> x.readings(0, -1), "what -1");
        call = "ordered";
        refused(NSEE, x -> x.ordered(2, 0), "column 2");
        refused(NSEE, x -> x.ordered(0, 2), "by column 2");
        refused(NSEE, x -> x.ordered(-1, 0), "column -1");
        refused(NSEE, x -> x.ordered(0, -1), "by column -1");
    }

    private interface OfColumnAndResult {
        Object answer(AlignedRuns x, int column, int result);
    }

    private static void noColumnOrResult(OfColumnAndResult asked, String also) {
        refused(NSEE, x -> asked.answer(x, 2, 0), "column 2" + also);
        refused(NSEE, x -> asked.answer(x, -1, 0), "column -1" + also);
        refused(NSEE, x -> asked.answer(x, 0, 7), "result 7" + also);
        refused(NSEE, x -> asked.answer(x, 0, -1), "result -1" + also);
        refused(NSEE, x -> asked.answer(x, HIGH, LOW), "both far off" + also);
    }

    private static void valuesOfResults() {
        in(RefusalsTest::some);
        call = "sum";
        noColumnOrResult((x, c, r) -> x.sum(c, r), "");
        call = "unlike";
        noColumnOrResult((x, c, r) -> x.unlike(c, r), "");
        call = "kth";
        noColumnOrResult((x, c, r) -> x.kth(c, r, 0), "");
        noColumnOrResult((x, c, r) -> x.kth(c, r, -1), ", k -1");
        call = "mode";
        noColumnOrResult((x, c, r) -> x.mode(c, r, 0), "");
        noColumnOrResult((x, c, r) -> x.mode(c, r, 2), ", what 2");
        refused(IAE, x -> x.mode(0, 6, 2), "what 2");
        refused(IAE, x -> x.mode(0, 6, -1), "what -1");
        call = "span";
        noColumnOrResult((x, c, r) -> x.span(c, r, 0, 0), "");
        noColumnOrResult((x, c, r) -> x.span(c, r, -1, 1000), ", from -1 to 1,000");
        refused(IAE, x -> x.span(0, 6, -1, 5), "from -1");
        refused(IAE, x -> x.span(0, 6, 1000, 5), "from 1,000");
        refused(IAE, x -> x.span(0, 6, 0, 1000), "to 1,000");
        refused(IAE, x -> x.span(0, 6, 5, -1), "to -1");
        refused(IAE, x -> x.span(0, 6, LOW, HIGH), "from the lowest to the highest");
    }

    private static void foretolds() {
        in(RefusalsTest::some);
        call = "foretold";
        refused(NSEE, x -> x.foretold(0, 2, 0, 0), "column 2");
        refused(NSEE, x -> x.foretold(0, -1, 0, 0), "column -1");
        refused(NSEE, x -> x.foretold(6, 2, 0, 0), "column 2, kind 6");
        refused(NSEE, x -> x.foretold(0, 2, 1000, 0), "column 2, n 1,000");
        refused(NSEE, x -> x.foretold(0, 2, 0, 3), "column 2, what 3");
        refused(IAE, x -> x.foretold(6, 0, 0, 0), "kind 6");
        refused(IAE, x -> x.foretold(-1, 0, 0, 0), "kind -1");
        refused(IAE, x -> x.foretold(0, 0, 1000, 0), "n 1,000");
        refused(IAE, x -> x.foretold(0, 0, -1, 0), "n -1");
        refused(IAE, x -> x.foretold(0, 0, 0, 3), "what 3");
        refused(IAE, x -> x.foretold(0, 0, 0, -1), "what -1");
    }

    private static void groups() {
        in(RefusalsTest::some);
        call = "group";
        refused(NSEE, x -> x.group(7, 0, 0), "result 7");
        refused(NSEE, x -> x.group(-1, 0, 0), "result -1");
        refused(NSEE, x -> x.group(0, 3, 0), "group 3 of 3");
        refused(NSEE, x -> x.group(0, -1, 0), "group -1");
        refused(NSEE, x -> x.group(0, HIGH, 0), "highest group");
        refused(NSEE, x -> x.group(7, 0, 3), "result 7, what 3");
        refused(NSEE, x -> x.group(0, 3, 3), "group 3, what 3");
        refused(IAE, x -> x.group(0, 2, 3), "what 3");
        refused(IAE, x -> x.group(6, 0, -1), "what -1");
        in(RefusalsTest::full);
        refused(NSEE, x -> x.group(6, 100, 0), "group 100");
        in(RefusalsTest::empty);
        refused(NSEE, x -> x.group(6, 0, 0), "group 0 of none");
    }

    private static void basesSought() {
        in(RefusalsTest::some);
        call = "thrift";
        refused(IAE, x -> x.thrift(1, 1, 0), "card 1");
        refused(IAE, x -> x.thrift(201, 1, 0), "card 201");
        refused(IAE, x -> x.thrift(100, 0, 0), "no components");
        refused(IAE, x -> x.thrift(100, 5, 0), "5 components");
        refused(IAE, x -> x.thrift(100, 2, 5), "what 5");
        refused(IAE, x -> x.thrift(100, 2, -1), "what -1");
        refused(IAE, x -> x.thrift(HIGH, LOW, HIGH), "all far off");
        call = "swift";
        refused(IAE, x -> x.swift(1, 1, 0), "card 1");
        refused(IAE, x -> x.swift(201, 1, 0), "card 201");
        refused(IAE, x -> x.swift(100, 0, 0), "no bitmaps");
        refused(IAE, x -> x.swift(100, 25, 0), "25 bitmaps");
        refused(IAE, x -> x.swift(100, 12, 5), "what 5");
        refused(IAE, x -> x.swift(100, 12, -1), "what -1");
        refused(IAE, x -> x.swift(LOW, HIGH, LOW), "all far off");
    }

    private static void othersTold() {
        in(RefusalsTest::some);
        call = "told";
        refused(IAE, x -> x.told(7), "what 7");
        refused(IAE, x -> x.told(-1), "what -1");
        refused(IAE, x -> x.told(LOW), "lowest what");
        call = "cost";
        refused(IAE, x -> x.cost(3), "what 3");
        refused(IAE, x -> x.cost(-1), "what -1");
        refused(IAE, x -> x.cost(HIGH), "highest what");
    }

    /** Each exception that the face names for a call has been met above, and none that it does not name. */
    private static void allOfTheFace() {
        for (Method method : AlignedRuns.class.getDeclaredMethods()) {
            if (Modifier.isPublic(method.getModifiers())) {
                Set<String> named = new TreeSet<>(Arrays.stream(method.getExceptionTypes()).map(Class::getSimpleName).toList());
                Set<String> tested = TESTED.getOrDefault(method.getName(), Set.of());
                Check.due("refusals of " + method.getName(), named.toString(), tested.toString());
            }
        }
    }

    // Faults: what stays behind them, and what does not.

    private interface Reading {
        int answer(AlignedRuns x, int n);
    }

    private static void faulty(AlignedRuns x, byte[] bytes, int fault, int place, Reading reading) {
        String what = call + " of " + Arrays.toString(bytes);
        x.load(0, 0);
        Check.put(x, bytes);
        String before = indexTold(x);
        String counts = x.status(0) + " " + x.status(1) + " " + x.status(2);
        Check.due(what, fault - 10, () -> reading.answer(x, bytes.length));
        Check.due("the place in " + what, place, x::fault);
        Check.due("the tape behind " + what, 0, () -> x.told(6));
        Check.due("all but the tape behind " + what, before, Check.answerOf(() -> indexTold(x)));
        Check.due("no refusal in " + what, counts, Check.answerOf(() -> x.status(0) + " " + x.status(1) + " " + x.status(2)));
    }

    private static void columnFaults() {
        call = "column";
        Object[][] texts = {{"", 1, 0}, {"range 3x2 on 6", 1, 10}, {"range 3x2 of 6 6", 1, 15}, {"range 3x1 of 3", 2, 8},
            {"equal 3x2 of 201", 2, 13}, {"equal 3x2x2x2x2 of 6", 3, 14}, {"equal 3x2 of 7", 4, 13}};
        for (Object[] text : texts) {
            AlignedRuns x = settled(Made.with("range 3x2 of 6", "equal 2 of 2"));
            faulty(x, Check.bytesOf((String) text[0]), (int) text[1], (int) text[2], AlignedRuns::column);
            Check.due("a column behind that", 2, () -> Made.column(x, "equal 2x2x2 of 8"));
        }
    }

    private static void questionFaults() {
        call = "ask";
        Object[][] texts = {{"", 1, 0}, {"all", 1, 3}, {"or(le(0,3),eq(1,1)", 1, 18}, {"not(le(0,3)),", 1, 12}, {"le(2,0)", 2, 3},
            {"or(le(0,3),le(0,1000))", 2, 16}, {"not(result(6))", 2, 11}, {"and(all(),all(),all(),all(),all())", 3, 27},
            {"not(not(not(not(not(all())))))", 3, 23}};
        for (Object[] text : texts) {
            AlignedRuns x = some();
            faulty(x, Check.bytesOf((String) text[0]), (int) text[1], (int) text[2], (y, n) -> y.ask(1, n));
            Check.due("a question behind that", 35, () -> Made.ask(x, 1, "all()"));
        }
    }

    private static void wordFaults() {
        call = "load";
        int[][] cases = {{2, 0, 0}, {2, 2, 5, 32767}, {3, 2, 32769, 49152}, {4, 2, 32769, 32770}, {5, 2, 32769, 49155}, {5, 6, 1, 2, 3, 4},
            {6, 4, 1, 2, 64}, {6, 0, 49155}, {7, 4, 49153, 5}, {7, 0}};
        for (int[] c : cases) {
            AlignedRuns x = some();
            byte[] bytes = Check.bytesOfWords(Arrays.copyOfRange(c, 2, c.length));
            faulty(x, bytes, c[0], c[1], (y, n) -> y.load(1, n));
            Check.due("words behind that", 36, () -> Made.load(x, 1, 49154, 63));
        }
        faulty(some(), new byte[] {0, 5, 1}, 1, 2, (y, n) -> y.load(1, n));
    }
}
