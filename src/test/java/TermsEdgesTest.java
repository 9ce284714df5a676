import java.io.IOException;

/** The edges that the document's terms name: rows, groups, words, the texts of columns and questions, steps, answers. */
public final class TermsEdgesTest {
    private static final String NSEE = "NoSuchElementException";
    private static final String IAE = "IllegalArgumentException";
    private static final String ISE = "IllegalStateException";

    private static Document document;

    private static void says(String sentence) {
        document.says(Document.TERMS, sentence);
    }

    private static void due(String what, Object want, Check.Call call) {
        document.due(what, want, call);
    }

    public static void main(String[] args) throws IOException {
        document = new Document();
        callsAtMost();
        rowsAtMost();
        groupsOfFifteen();
        fills();
        literals();
        lastGroup();
        alwaysCanonical();
        columnsAtMost();
        cards();
        components();
        bases();
        basesMultiplied();
        digits();
        bitmapsByRange();
        bitmapsByEqual();
        columnText();
        columnSigns();
        numbers();
        words();
        blanks();
        columnFirstFault();
        columnFaultOfSigns();
        columnFaultOfNumbers();
        columnFaultOfFifthBase();
        columnFaultOfProduct();
        live();
        resultsAtFirst();
        logicOfTwo();
        logicSteps();
        turnedSteps();
        opsAndReadings();
        bitForEachRow();
        questionText();
        questionForms();
        questionColumns();
        questionNumbers();
        questionResults();
        questionFaults();
        questionFifth();
        questionSixth();
        answeredInOrder();
        allAndNone();
        joinedFromTheLeft();
        upToByRange();
        upToByEqual();
        below();
        notBelow();
        above();
        unequal();
        between();
        equalByRange();
        equalByEqual();
        inTheEnd();
        nothingStaysChanged();
        Check.end("TermsEdgesTest");
    }

    // Rows, groups and words.

    private static void callsAtMost() {
        document.says(Document.HEAD, "An object is used for at most 512 calls after it has been made");
        String text = "equal 200x200x200x200 of 200";
        // Two calls of feed and one of column for each: twelve.
        AlignedRuns x = Made.with(text, text, text, text);
        for (int row = 0; row < 498; row++) {
            x.add(row % 200, 199 - row % 200, row / 3, 199);
        }
        due("the 511th", 498, () -> x.add(199, 198, 197, 196));
        due("the 512th", 166 + 1, () -> x.unlike(2, 6));
    }

    private static void rowsAtMost() {
        says("ROWS are numbered from 0 on, 1,500 at most.");
        AlignedRuns x = new AlignedRuns();
        due("the first", 0, () -> x.add(0, 0, 0, 0));
        due("the second", 1, () -> x.add(0, 0, 0, 0));
        Made.grown(x, 1497);
        due("the last", 1499, () -> x.add(0, 0, 0, 0));
        due("one more", ISE, () -> x.add(0, 0, 0, 0));
        due("one more by many", ISE, () -> x.many(1, 0, 0, 0, 0));
        due("how many", 1500, () -> x.told(1));
        due("row 0", true, () -> x.has(6, 0));
        due("row 1,499", true, () -> x.has(6, 1499));
        due("row -1", NSEE, () -> x.has(6, -1));
        due("row 1,500", NSEE, () -> x.has(6, 1500));
    }

    private static void groupsOfFifteen() {
        says("ROWS stand in GROUPS of 15, from ROW 0 on; the last one may have fewer.");
        int[][] cases = {{0, 0}, {1, 1}, {14, 1}, {15, 1}, {16, 2}, {29, 2}, {30, 2}, {31, 3}, {1485, 99}, {1486, 100}, {1500, 100}};
        for (int[] c : cases) {
            due("groups of " + c[0], c[1], () -> Made.rows(c[0]).told(3));
        }
        AlignedRuns x = Made.with("equal 2 of 2");
        x.many(14, 0, 0, 0, 0);
        x.add(1, 0, 0, 0);
        x.add(1, 0, 0, 0);
        due("row 14 is in the first", 16384, () -> x.indexWord(0, 1, 1, 0));
        due("row 15 is in the next", 1, () -> x.indexWord(0, 1, 1, 1));
        due("no third", NSEE, () -> x.indexWord(0, 1, 1, 2));
    }

    private static void fills() {
        says("a GROUP of 15 ROWS that are all 0, or all 1, is in a FILL: 32,768, 16,384 more if they are 1, and how many GROUPS "
            + "one behind the other it stands for, as many as there are");
        for (int groups : new int[] {1, 2, 3, 99, 100}) {
            AlignedRuns x = Made.rows(15 * groups);
            due(groups + " of 1", 32768 + 16384 + groups, () -> x.word(6, 0));
            due(groups + " of 1: words", 1, () -> x.result(6, 1));
            due(groups + " of 0", 32768 + groups, () -> x.word(0, 0));
            due(groups + " of 0: words", 1, () -> x.result(0, 1));
        }
        AlignedRuns x = Made.rows(60);
        Made.load(x, 0, 32769, 49154, 32769);
        due("one of 0", 32769, () -> x.word(0, 0));
        due("two of 1 behind it", 49154, () -> x.word(0, 1));
        due("one of 0 behind them", 32769, () -> x.word(0, 2));
        due("words", 3, () -> x.result(0, 1));
    }

    private static void bitForEachRow() {
        says("A BITMAP has a bit for each ROW.");
        AlignedRuns x = Made.with("equal 2 of 2");
        for (int i = 0; i < 300; i++) {
            x.add(i % 7 == 3 || i % 11 == 5 ? 1 : 0, 0, 0, 0);
        }
        Made.ask(x, 0, "eq(0,1)");
        for (int i = 280; i < 300; i++) {
            int row = i;
            due("row " + row, row % 7 == 3 || row % 11 == 5, () -> x.has(0, row));
        }
        due("in it", 43 + 27 - 4, () -> x.index(0, 1, 1, 0));
        due("not in it", 300 - 43 - 27 + 4, () -> x.index(0, 1, 0, 0));
    }

    private static void literals() {
        says("any other GROUP is a LITERAL: 1 for its first ROW, 2 for its second one, and so on to 16,384");
        for (int i = 0; i < 15; i++) {
            int row = i;
            AlignedRuns x = Made.rows(30);
            x.delete(row);
            due("all but row " + row, 32767 - (1 << row), () -> x.word(6, 0));
            AlignedRuns y = Made.with("equal 2 of 2");
            for (int at = 0; at < 30; at++) {
                y.add(at == 15 + row ? 1 : 0, 0, 0, 0);
            }
            due("just row " + (15 + row), 1 << row, () -> y.indexWord(0, 1, 1, 1));
        }
    }

    private static void lastGroup() {
        says("of a last GROUP with fewer ROWS the others are 0; with all 0 it is in a FILL, too, with all 1 a LITERAL");
        for (int rows = 1; rows <= 14; rows++) {
            int n = rows;
            AlignedRuns x = Made.rows(n);
            due("all 1 of " + n, (1 << n) - 1, () -> x.word(6, 0));
            due("all 1 of " + n + ": literals", 1, () -> x.result(6, 2));
            due("all 0 of " + n, 32769, () -> x.word(0, 0));
            due("all 0 of " + n + ": fills", 1, () -> x.result(0, 3));
            AlignedRuns y = Made.rows(15 + n);
            due("a fill of 1 ahead of " + n, 49153, () -> y.word(6, 0));
            due("all 1 of " + n + " behind a fill", (1 << n) - 1, () -> y.word(6, 1));
            due("all 0 of " + n + " are in the fill", 32770, () -> y.word(0, 0));
        }
        AlignedRuns x = Made.rows(29);
        x.add(0, 0, 0, 0);
        due("the fifteenth makes it a fill", 49154, () -> x.word(6, 0));
    }

    private static void alwaysCanonical() {
        says("This is its CANONICAL form; each BITMAP always has it.");
        AlignedRuns x = Made.rows(45);
        x.delete(20);
        due("a fill is cut", 3, () -> x.result(6, 1));
        x.close();
        due("and closed up", 2, () -> x.result(6, 1));
        x.add(0, 0, 0, 0);
        due("and whole again", 49155, () -> x.word(6, 0));
        Made.load(x, 0, 32769, 7, 49153);
        Made.load(x, 1, 49153, 7, 32769);
        due("XOR of both", 30, () -> x.logic(2, 0, 1, 2));
        due("its words", 3, () -> x.result(2, 1));
        due("OR of both", 33, () -> x.logic(1, 0, 1, 2));
        Made.load(x, 1, 49153, 32760, 32769);
        due("OR that fills up", 45, () -> x.logic(1, 0, 1, 2));
        due("is one fill", 49155, () -> x.word(2, 0));
        due("AND that empties", 0, () -> x.logic(0, 0, 1, 2));
        due("is one fill, too", 32771, () -> x.word(2, 0));
    }

    // Columns and their texts.

    private static void columnsAtMost() {
        says("COLUMNS, 4 at most, numbered from 0 on");
        AlignedRuns x = new AlignedRuns();
        for (int i = 0; i < 4; i++) {
            int number = i;
            due("number " + number, number, () -> Made.column(x, "equal 2 of 2"));
        }
        due("a fifth", ISE, () -> Made.column(x, "equal 2 of 2"));
        due("how many", 4, () -> x.told(0));
        due("the last", 2, () -> x.columnOf(3, 0));
        due("behind the last", NSEE, () -> x.columnOf(4, 0));
    }

    private static void cards() {
        says("VALUES are 0 to CARD less 1 (CARD 2 to 200)");
        taken("range 200 of 2");
        taken("range 200 of 200");
        faulty("range 200 of 1", 2, 13);
        faulty("range 200 of 0", 2, 13);
        faulty("range 200x2 of 201", 2, 15);
        AlignedRuns x = Made.with("equal 200 of 200", "range 2 of 2");
        due("the greatest", 0, () -> x.add(199, 1, 0, 0));
        due("the least", 1, () -> x.add(0, 0, 0, 0));
        due("one above", IAE, () -> x.add(200, 0, 0, 0));
        due("one above the lesser card", IAE, () -> x.add(0, 2, 0, 0));
        due("one below", IAE, () -> x.add(0, -1, 0, 0));
        due("the greatest of it", 199, () -> x.value(0, 0));
    }

    private static void taken(String text) {
        AlignedRuns x = new AlignedRuns();
        due("column '" + text + "'", 0, () -> Made.column(x, text));
        due("its fault", -1, x::fault);
    }

    private static void faulty(String text, int fault, int place) {
        AlignedRuns x = new AlignedRuns();
        due("column '" + text + "'", fault - 10, () -> Made.column(x, text));
        due("the place in '" + text + "'", place, x::fault);
    }

    private static void components() {
        says("COMPONENTS, 1 to 4, numbered from 1 on");
        faulty("range of 2", 1, 6);
        taken("range 2 of 2");
        taken("range 2x2x2x2 of 16");
        faulty("range 2x2x2x2x2 of 16", 3, 14);
        AlignedRuns x = Made.with("range 2x3x4x5 of 120");
        for (int component = 1; component <= 4; component++) {
            int c = component;
            due("base of " + c, c + 1, () -> x.base(0, c));
        }
        due("component 0", NSEE, () -> x.base(0, 0));
        due("component 5", NSEE, () -> x.base(0, 5));
    }

    private static void bases() {
        says("each with a BASE (2 to 200)");
        taken("equal 2 of 2");
        taken("equal 200 of 2");
        taken("equal 2x2x2x200 of 2");
        faulty("equal 1 of 2", 2, 6);
        faulty("equal 0 of 2", 2, 6);
        faulty("equal 201 of 2", 2, 6);
        faulty("equal 2x1 of 2", 2, 8);
        faulty("equal 2x201 of 2", 2, 8);
        faulty("equal 2x2x2x1 of 2", 2, 12);
        faulty("equal 2x2x2x201 of 2", 2, 12);
    }

    private static void basesMultiplied() {
        says("BASES multiplied are CARD at least.");
        taken("range 2x2 of 4");
        taken("range 2x2 of 3");
        faulty("range 2x2 of 5", 4, 13);
        taken("range 2 of 2");
        faulty("range 2 of 3", 4, 11);
        taken("range 199 of 199");
        faulty("range 199 of 200", 4, 13);
        taken("equal 200x200x200x200 of 200");
        taken("equal 5x5x2x4 of 200");
        faulty("equal 5x5x2x3 of 151", 4, 17);
    }

    private static void digits() {
        says("DIGIT 1 of a VALUE is what is left of it by BASE 1, DIGIT 2 what is left of that quotient (cut) by BASE 2, and so on.");
        AlignedRuns x = Made.with("equal 3x2x4x2 of 48");
        int[][] cases = {{0, 0, 0, 0, 0}, {2, 2, 0, 0, 0}, {3, 0, 1, 0, 0}, {5, 2, 1, 0, 0}, {6, 0, 0, 1, 0}, {23, 2, 1, 3, 0},
            {24, 0, 0, 0, 1}, {47, 2, 1, 3, 1}};
        for (int[] c : cases) {
            int row = x.add(c[0], 0, 0, 0);
            for (int component = 1; component <= 4; component++) {
                int at = component;
                due("digit " + at + " of " + c[0], true, () -> (x.indexWord(0, at, c[at], 0) >> row & 1) == 1);
            }
        }
        AlignedRuns y = Made.with("equal 2x2x3 of 3");
        y.add(2, 0, 0, 0);
        due("a last digit that the card leaves 0", 1, () -> y.indexWord(0, 3, 0, 0));
    }

    private static void bitmapsByRange() {
        says("By \"range\" a COMPONENT has BASE less 1 BITMAPS, numbered from 0 on: BITMAP j has a ROW, if its DIGIT is j at most");
        AlignedRuns x = Made.twelve("range 4x3 of 12");
        int[] first = {0x111, 0x333, 0x777};
        int[] second = {0xF, 0xFF};
        for (int j = 0; j < 3; j++) {
            int at = j;
            due("bitmap " + at + " of component 1", first[at], () -> x.indexWord(0, 1, at, 0));
        }
        due("bitmap 3 of component 1", NSEE, () -> x.indexWord(0, 1, 3, 0));
        for (int j = 0; j < 2; j++) {
            int at = j;
            due("bitmap " + at + " of component 2", second[at], () -> x.indexWord(0, 2, at, 0));
        }
        due("bitmap 2 of component 2", NSEE, () -> x.indexWord(0, 2, 2, 0));
        due("bitmap -1", NSEE, () -> x.indexWord(0, 1, -1, 0));
        due("how many of base 2", 1, () -> Made.with("range 2 of 2").told(4));
        due("how many of base 200", 199, () -> Made.with("range 200 of 2").told(4));
    }

    private static void bitmapsByEqual() {
        says("by \"equal\" it has BASE of them: if its DIGIT is j.");
        AlignedRuns x = Made.twelve("equal 4x3 of 12");
        int[] first = {0x111, 0x222, 0x444, 0x888};
        int[] second = {0xF, 0xF0, 0xF00};
        for (int j = 0; j < 4; j++) {
            int at = j;
            due("bitmap " + at + " of component 1", first[at], () -> x.indexWord(0, 1, at, 0));
        }
        due("bitmap 4 of component 1", NSEE, () -> x.indexWord(0, 1, 4, 0));
        for (int j = 0; j < 3; j++) {
            int at = j;
            due("bitmap " + at + " of component 2", second[at], () -> x.indexWord(0, 2, at, 0));
        }
        due("bitmap 3 of component 2", NSEE, () -> x.indexWord(0, 2, 3, 0));
        due("how many of base 2", 2, () -> Made.with("equal 2 of 2").told(4));
        due("how many of base 200", 200, () -> Made.with("equal 200 of 2").told(4));
    }

    private static String blanks(int n) {
        return " ".repeat(n);
    }

    private static void columnText() {
        says("A COLUMN is told by a text of up to 200 bytes");
        taken("range" + blanks(184) + "2 of " + blanks(5) + "2");
        due("that has 200", 200, () -> ("range" + blanks(184) + "2 of " + blanks(5) + "2").length());
        faulty("range" + blanks(185) + "2 of " + blanks(5), 1, 200);
        faulty(blanks(200), 1, 200);
        faulty("", 1, 0);
        AlignedRuns x = new AlignedRuns();
        Check.put(x, Check.bytesOf(blanks(195) + "equal 3 of 3"));
        due("201 bytes", IAE, () -> x.column(201));
        due("the tape stays", 220, () -> x.told(6));
        due("just its first bytes are read", -9, () -> x.column(200));
        due("where they end", 200, x::fault);
    }

    private static void columnSigns() {
        says("(\"range\" | \"equal\") BASE { \"x\" BASE } \"of\" CARD.");
        taken("range 2 of 2");
        taken("equal 2x2 of 2");
        faulty("2 of 2", 1, 0);
        faulty("range equal 2 of 2", 1, 6);
        faulty("range 2 2 of 2", 1, 8);
        faulty("range x2 of 2", 1, 6);
        faulty("range 2x of 2", 1, 9);
        faulty("range 2 x x 2 of 2", 1, 10);
        faulty("range 2 2", 1, 8);
        faulty("range 2 of of 2", 1, 11);
        faulty("range 2 of 2 of 2", 1, 13);
        faulty("range 2 of 2x2", 1, 12);
        faulty("range 2 of 2 2", 1, 13);
        faulty("range 2of2" + (char) 0, 1, 10);
        AlignedRuns x = Made.with("range 2 of 2", "equal 2 of 2");
        due("range", 1, () -> x.columnOf(0, 2));
        due("equal", 0, () -> x.columnOf(1, 2));
    }

    private static void numbers() {
        says("Numbers: digits, as many as stand there");
        taken("range " + "0".repeat(180) + "2 of 2");
        taken("range 002x03 of 0006");
        faulty("range 0002 of 0000", 2, 14);
        faulty("range 2147483650 of 2", 2, 6);
        faulty("range 4294967298 of 2", 2, 6);
        faulty("range 18446744073709551618 of 2", 2, 6);
        faulty("range 2 of " + "9".repeat(189), 2, 11);
        faulty("range 2/ of 2", 1, 7);
        faulty("range 2: of 2", 1, 7);
        faulty("range / of 2", 1, 6);
        faulty("range : of 2", 1, 6);
        faulty("range -2 of 2", 1, 6);
        faulty("range +2 of 2", 1, 6);
    }

    private static void words() {
        says("words: small letters, as many as stand there");
        faulty("rang 2 of 2", 1, 0);
        faulty("rangee 2 of 2", 1, 0);
        faulty("equals 2 of 2", 1, 0);
        faulty("equa", 1, 0);
        faulty("rangeequal 2 of 2", 1, 0);
        faulty("rangez 2 of 2", 1, 0);
        faulty("arange 2 of 2", 1, 0);
        faulty("range 2 zof 2", 1, 8);
        faulty("range 2 ofa 2", 1, 8);
        faulty("Range 2 of 2", 1, 0);
        faulty("rangE 2 of 2", 1, 0);
        faulty("range 2X2 of 2", 1, 7);
        faulty("range 2xx2 of 2", 1, 7);
        faulty("range 2 o 2", 1, 8);
        faulty("range 2 off 2", 1, 8);
        faulty("range 2xof 2", 1, 7);
        faulty("range 2 Of 2", 1, 8);
        faulty("range` 2 of 2", 1, 5);
        faulty("range{ 2 of 2", 1, 5);
        faulty("range, 2 of 2", 1, 5);
        faulty("range,equal 2 of 2", 1, 5);
        faulty("x,of 2 of 2", 1, 0);
    }

    private static void blanks() {
        says("blanks (32) may stand ahead of all these and of signs, and at the end (so below)");
        taken("   range   2   x   2   of   2   ");
        taken("range2x2of2");
        faulty("ran ge 2 of 2", 1, 0);
        faulty("range 2 0 of 2", 1, 8);
        faulty("range 2 o f 2", 1, 8);
        faulty("range\t2 of 2", 1, 5);
        faulty("range 2 of 2\n", 1, 12);
        faulty("range 2 of 2" + (char) 31, 1, 12);
        faulty("range 2 of 2" + (char) 33, 1, 12);
        faulty("range 2 of 2" + (char) 160, 1, 12);
        AlignedRuns x = Made.small();
        due("in a question", 4, () -> Made.ask(x, 0, "  or  (  le  (  0  ,  37  )  ,  none  (  )  )  "));
        due("without them", 4, () -> Made.ask(x, 0, "or(le(0,37),none())"));
    }

    private static void columnFirstFault() {
        says("FAULTS, the first from the left, at its first byte");
        faulty("range   201 of 1 x", 2, 8);
        faulty("range 2  x 201 of 1", 2, 11);
        faulty("range 2 of  1 x", 2, 12);
        faulty("range 2 of  3 x", 4, 12);
        faulty("rang 201 of 1", 1, 0);
        faulty("  rang 201 of 1", 1, 2);
        faulty("range 2 on 1", 1, 8);
        faulty("range 2x2x2x2x2x1 on 1", 3, 14);
    }

    private static void columnFaultOfSigns() {
        says("1 what can't stand there (at the length, if the text ends too early)");
        faulty("", 1, 0);
        faulty(" ", 1, 1);
        faulty("range", 1, 5);
        faulty("range   ", 1, 8);
        faulty("range 2", 1, 7);
        faulty("range 2  ", 1, 9);
        faulty("range 2x", 1, 8);
        faulty("range 2x ", 1, 9);
        faulty("range 2x2", 1, 9);
        faulty("range 2 of", 1, 10);
        faulty("range 2 of ", 1, 11);
        faulty("rangeof", 1, 0);
        faulty("r", 1, 0);
    }

    private static void columnFaultOfNumbers() {
        says("2 a number that is none such (a fifth BASE: 3, ahead of that)");
        faulty("range 1x201 of 2", 2, 6);
        faulty("range 2x2x2x1x2 of 2", 2, 12);
        faulty("range 2 of 201", 2, 11);
        faulty("range 2 of 1", 2, 11);
    }

    private static void columnFaultOfFifthBase() {
        says("(a fifth BASE: 3, ahead of that)");
        faulty("range 2x2x2x2x2 of 2", 3, 14);
        faulty("range 2x2x2x2x1 of 2", 3, 14);
        faulty("range 2x2x2x2x201 of 2", 3, 14);
        faulty("range 2x2x2x2 x  0", 3, 17);
        faulty("range 2x2x2x2x of 2", 1, 15);
        faulty("range 2x2x2x2x", 1, 14);
        faulty("range 2x2x2x2xx2 of 2", 1, 13);
    }

    private static void columnFaultOfProduct() {
        says("4 (at CARD) BASES multiplied are less.");
        faulty("range 2x3 of 7", 4, 13);
        faulty("range 2x3 of   7", 4, 15);
        faulty("range 2x3of7", 4, 11);
        faulty("range 2x3 of 007 x", 4, 13);
        faulty("range 2x3 of 200 of", 4, 13);
        taken("range 2x3 of 6");
        AlignedRuns x = Made.with("range 9x9 of 81");
        due("of an earlier text nothing is left", -6, () -> Made.column(x, "range 2 of 3"));
        due("nor of this one", 1, () -> Made.column(x, "range 2 of 2"));
        due("its bases", 1, () -> x.columnOf(1, 1));
    }

    // LIVE and the results.

    private static void live() {
        says("LIVE is a BITMAP, too: a ROW is in it until it is deleted.");
        AlignedRuns x = Made.rows(16);
        due("the last", true, () -> x.has(6, 15));
        x.delete(15);
        due("deleted", false, () -> x.has(6, 15));
        due("its words", 2, () -> x.result(6, 1));
        due("all 1 ahead", 49153, () -> x.word(6, 0));
        due("a last group of 0", 32769, () -> x.word(6, 1));
        x.add(0, 0, 0, 0);
        due("a row that comes", true, () -> x.has(6, 16));
        due("the deleted one still", false, () -> x.has(6, 15));
        due("without rows", 0, () -> new AlignedRuns().result(6, 1));
    }

    private static void resultsAtFirst() {
        says("RESULTS, 0 to 5, are BITMAPS: at first, and in ROWS that come later, all 0.");
        AlignedRuns x = Made.rows(20);
        for (int r = 0; r <= 5; r++) {
            int result = r;
            due("result " + result, 32770, () -> x.word(result, 0));
            due("result " + result + " turned", 20, () -> x.turn(result));
        }
        due("result 6", NSEE, () -> x.turn(6));
        due("result -1", NSEE, () -> x.turn(-1));
        x.add(0, 0, 0, 0);
        x.many(24, 0, 0, 0, 0);
        for (int r = 0; r <= 5; r++) {
            int result = r;
            due("result " + result + " has no later rows", 19, () -> x.result(result, 5));
            due("result " + result + " has its own", 31, () -> x.word(result, 1));
            due("result " + result + " has 0 behind them", 32769, () -> x.word(result, 2));
        }
        AlignedRuns y = Made.rows(20);
        y.turn(0);
        y.delete(0);
        y.close();
        y.add(0, 0, 0, 0);
        due("a row that comes where one was", false, () -> y.has(0, 19));
    }

    // Steps, ops, readings.

    private static void steps(int due, int[] first, int[] second) {
        int groups = 0;
        for (int word : first) {
            groups += word < 32768 ? 1 : word & 16383;
        }
        AlignedRuns x = Made.rows(15 * groups);
        Made.load(x, 0, first);
        Made.load(x, 1, second);
        String what = java.util.Arrays.toString(first) + " and " + java.util.Arrays.toString(second);
        due("steps of " + what, due, () -> x.would(0, 0, 1, 2));
        due("the other way round, " + what, due, () -> x.would(3, 1, 0, 2));
    }

    private static int[] of(int... words) {
        return words;
    }

    private static void logicOfTwo() {
        says("==== 2. LOGIC of two BITMAPS (AND, OR, XOR, LESS: in the first one, and not in the second one)");
        AlignedRuns x = Made.rows(4);
        Made.load(x, 0, 0b1100);
        Made.load(x, 1, 0b1010);
        int[] want = {0b1000, 0b1110, 0b0110, 0b0100};
        String[] names = {"and", "or", "xor", "less"};
        for (int kind = 0; kind < 4; kind++) {
            int k = kind;
            due("rows of " + names[k], Integer.bitCount(want[k]), () -> Made.ask(x, 2, names[k] + "(result(0),result(1))"));
            due("the word of " + names[k], want[k], () -> x.word(2, 0));
            due("how many by logic " + k, Integer.bitCount(want[k]), () -> x.logic(k, 0, 1, 3));
            due("the word by logic " + k, want[k], () -> x.word(3, 0));
        }
    }

    private static void logicSteps() {
        says("STEPS: from GROUP 0 on, each takes one GROUP, if either stands at a LITERAL, else as many as both have left of their FILLS there.");
        int zero = 32768;
        int one = 49152;
        steps(1, of(zero + 3), of(zero + 3));
        steps(1, of(zero + 3), of(one + 3));
        steps(1, of(zero + 100), of(one + 100));
        steps(2, of(zero + 3), of(zero + 1, one + 2));
        steps(3, of(zero + 3), of(zero + 1, one + 1, zero + 1));
        steps(2, of(zero + 3), of(5, zero + 2));
        steps(2, of(zero + 3), of(zero + 2, 5));
        steps(3, of(zero + 3), of(zero + 1, 5, zero + 1));
        steps(3, of(zero + 3), of(5, 5, 5));
        steps(3, of(3, 3, 3), of(5, 5, 5));
        steps(3, of(zero + 2, 7), of(3, zero + 2));
        steps(3, of(zero + 1, 7, zero + 1), of(one + 1, zero + 2));
        steps(3, of(zero + 4, one + 4), of(one + 2, zero + 6));
        steps(2, of(zero + 4, one + 4), of(one + 4, zero + 4));
        steps(3, of(zero + 5, one + 5), of(one + 6, zero + 4));
        steps(5, of(zero + 5, 1, zero + 4), of(one + 3, 1, one + 6));
        AlignedRuns none = new AlignedRuns();
        due("without rows", 0, () -> none.would(0, 0, 6, 2));
        AlignedRuns fewer = Made.rows(31);
        due("a last group of fewer rows, all 1: a literal", 2, () -> fewer.would(0, 0, 6, 2));
        due("all 0: in the fill", 1, () -> fewer.would(0, 0, 1, 2));
    }

    private static void turnedSteps() {
        says("TURNED (not): in each ROW the other one; STEPS: how many WORDS it has ahead of that.");
        AlignedRuns x = Made.rows(31);
        // Behind each "+": that AND LIVE, a fill of two groups and a literal.
        dueSteps(x, "not(all())", 1, 2, 2 + 2);
        dueSteps(x, "not(none())", 1, 2, 1 + 2);
        dueSteps(x, "not(not(none()))", 1, 3, 1 + 2 + 2);
        Made.load(x, 0, 32769, 5, 1);
        dueSteps(x, "not(result(0))", 2, 2, 3 + 3);
        due("all turned", 0, () -> Made.ask(x, 1, "not(all())"));
        due("none turned", 31, () -> Made.ask(x, 1, "not(none())"));
        due("one turned", 28, () -> Made.ask(x, 1, "not(result(0))"));
        due("its last group", 32769, () -> x.word(1, 2));
        AlignedRuns none = new AlignedRuns();
        dueSteps(none, "not(not(all()))", 1, 3, 0);
    }

    private static void opsAndReadings() {
        says("Each LOGIC, and each that is TURNED, is an OP. Each BITMAP of a COLUMN, LIVE, a RESULT that is taken is a READING.");
        AlignedRuns x = Made.twelve("range 4x3 of 12", "equal 4x3 of 12");
        answer(x, "all()", 12, 1, 1);
        answer(x, "none()", 0, 1, 1);
        answer(x, "result(0)", 0, 2, 1);
        answer(x, "or(result(0),result(0))", 0, 3, 2);
        answer(x, "not(result(0))", 12, 2, 2);
        answer(x, "not(not(result(0)))", 0, 2, 3);
        answer(x, "xor(all(),none())", 12, 1, 2);
        answer(x, "and(all(),all(),all(),all())", 12, 1, 4);
    }

    /** How many rows a question has, and its readings and ops; of one group each op takes one step. */
    private static void answer(AlignedRuns x, String text, int rows, int readings, int ops) {
        due(text, rows, () -> Made.ask(x, 5, text));
        due("fault of " + text, -1, x::fault);
        due("readings of " + text, readings, () -> x.cost(0));
        due("ops of " + text, ops, () -> x.cost(1));
        due("steps of " + text, ops, () -> x.cost(2));
    }

    // Questions and their faults.

    private static void misread(String text, int fault, int place) {
        AlignedRuns x = Made.small();
        due("ask '" + text + "'", fault - 10, () -> Made.ask(x, 0, text));
        due("the place in '" + text + "'", place, x::fault);
    }

    private static void read(String text) {
        AlignedRuns x = Made.small();
        due("ask '" + text + "'", true, () -> Made.ask(x, 0, text) >= 0);
        due("its fault", -1, x::fault);
    }

    private static void questionText() {
        says("A QUESTION is a text of up to 200 bytes");
        read("all()" + blanks(195));
        read("all(" + blanks(195) + ")");
        misread("all(" + blanks(196), 1, 200);
        misread(blanks(200), 1, 200);
        misread("", 1, 0);
        AlignedRuns x = Made.small();
        Check.put(x, Check.bytesOf(blanks(196) + "all()"));
        due("201 bytes", IAE, () -> x.ask(0, 201));
        due("the tape stays", 220, () -> x.told(6));
        due("just its first bytes are read", -9, () -> x.ask(0, 200));
        due("to their end", 200, x::fault);
    }

    private static void questionForms() {
        says("likewise \"or\" (2 to 4 of Q each); \"xor\" \"(\" Q \",\" Q \")\", likewise \"less\"; \"not\" \"(\" Q \")\"; "
            + "\"all\" \"(\" \")\", likewise \"none\"");
        for (String name : new String[] {"and", "or", "xor", "less", "not"}) {
            boolean many = name.equals("and") || name.equals("or");
            int open = name.length() + 1;
            misread(name + "()", 1, open);
            misread(name + "(,all())", 1, open);
            if (name.equals("not")) {
                read(name + "(all())");
                misread(name + "(all(),all())", 1, open + 5);
                continue;
            }
            misread(name + "(all())", 1, open + 5);
            read(name + "(all(),none())");
            misread(name + "(all(),none(),)", 1, open + (many ? 13 : 12));
            if (many) {
                read(name + "(all(),none(),all())");
                read(name + "(all(),none(),all(),none())");
                misread(name + "(all(),none(),all(),none(),all())", 3, open + 25);
            } else {
                misread(name + "(all(),none(),all())", 1, open + 12);
            }
        }
    }

    private static void questionColumns() {
        says("C: the number of a COLUMN");
        for (String name : new String[] {"le", "lt", "ge", "gt", "eq", "ne"}) {
            read(name + "(0,0)");
            read(name + "(1,0)");
            misread(name + "(2,0)", 2, 3);
            misread(name + "(4294967296,0)", 2, 3);
        }
        read("in(1,0,0)");
        misread("in(2,0,0)", 2, 3);
        AlignedRuns x = new AlignedRuns();
        due("without columns", -8, () -> Made.ask(x, 0, "le(0,0)"));
        due("at the number", 3, x::fault);
        AlignedRuns y = Made.with("equal 2 of 2", "equal 2 of 2", "equal 2 of 2", "equal 2 of 2");
        due("the last of four", 0, () -> Made.ask(y, 0, "le(3,0)"));
        due("behind four", -8, () -> Made.ask(y, 0, "le(4,0)"));
    }

    private static void questionNumbers() {
        says("N: 0 to 999 (of result: 0 to 5)");
        for (String name : new String[] {"le", "lt", "ge", "gt", "eq", "ne"}) {
            read(name + "(0,999)");
            read(name + "(0,000999)");
            misread(name + "(0,1000)", 2, 5);
            misread(name + "(0,00001000)", 2, 5);
            misread(name + "(0,4294967295)", 2, 5);
            misread(name + "(0,-1)", 1, 5);
        }
        read("in(0,0,999)");
        read("in(0,999,999)");
        misread("in(0,0,1000)", 2, 7);
        misread("in(0,1000,0)", 2, 5);
        misread("in(0,1000,1000)", 2, 5);
    }

    private static void questionResults() {
        says("(of result: 0 to 5)");
        for (int r = 0; r <= 5; r++) {
            read("result(" + r + ")");
        }
        misread("result(6)", 2, 7);
        misread("result( 10 )", 2, 8);
        misread("result(-1)", 1, 7);
        misread("result()", 1, 7);
        misread("result(0,0)", 1, 8);
    }

    private static void questionFaults() {
        says("FAULTS, likewise: 1; 2 a number that is none such");
        misread("al()", 1, 0);
        misread("alls()", 1, 0);
        misread("  alls()", 1, 2);
        misread("le,lt(0,0)", 1, 2);
        misread("0", 1, 0);
        misread("all", 1, 3);
        misread("all  ", 1, 5);
        misread("all(", 1, 4);
        misread("all( ", 1, 5);
        misread("all)", 1, 3);
        misread("all(all())", 1, 4);
        misread("all()all()", 1, 5);
        misread("all(),all()", 1, 5);
        misread("all());", 1, 5);
        misread("none(0)", 1, 5);
        misread("le(", 1, 3);
        misread("le(0", 1, 4);
        misread("le(0,", 1, 5);
        misread("le(0,0", 1, 6);
        misread("le(0)", 1, 4);
        misread("le(0,0,0)", 1, 6);
        misread("le(le(0,0),0)", 1, 3);
        misread("le(0,all())", 1, 5);
        misread("in(0,0)", 1, 6);
        misread("in(0,0,0,0)", 1, 8);
        misread("in(0,0,", 1, 7);
        misread("not(0)", 1, 4);
        misread("not(all()", 1, 9);
        misread("not(all(),all())", 1, 9);
        misread("and()", 1, 4);
        misread("and(all())", 1, 9);
        misread("and(all(),", 1, 10);
        misread("and(all(),)", 1, 10);
        misread("and(all() all())", 1, 10);
        misread("or(all(),all()", 1, 14);
        misread("xor(all())", 1, 9);
        misread("xor(all(),all(),all())", 1, 15);
        misread("less(all())", 1, 10);
        misread("less(all(),all() ,all())", 1, 17);
        misread("le(9,1000)", 2, 3);
        misread("le(0,1000", 2, 5);
        misread("or(le(0,0),le(0,1000),le(9,0))", 2, 16);
    }

    private static void questionFifth() {
        says("3 a fifth Q of and, or (at the \",\" ahead of it)");
        for (String name : new String[] {"and", "or"}) {
            int open = name.length() + 1;
            read(name + "(all(),all())");
            read(name + "(all(),all(),all())");
            read(name + "(all(),all(),all(),all())");
            misread(name + "(all(),all(),all(),all(),all())", 3, open + 23);
            misread(name + "(all(),all(),all(),all()  , all())", 3, open + 25);
            misread(name + "(all(),all(),all(),all(),le(9,1000))", 3, open + 23);
        }
        misread("not(and(all(),all(),all(),all(),all()))", 3, 31);
        misread("and(or(all(),all(),all(),all()),all(),all(),all(),all())", 3, 49);
        read("and(or(all(),all(),all(),all()),all(),all(),or(all(),all(),all(),all()))");
    }

    private static void questionSixth() {
        says("a sixth \"(\" that is open at one time (at it)");
        read("not(not(not(not(all()))))");
        misread("not(not(not(not(not(all())))))", 3, 23);
        misread("not(not(not(not(not(all  (", 3, 25);
        misread("not(not(not(not(not(le(9,1000))))))", 3, 22);
        misread("not(not(not(not(not(not(", 3, 23);
        misread("not(not(not(not(not(all", 1, 23);
        misread("not(not(not(not(not(al(", 1, 20);
        read("not(not(not(not(le(0,5)))))");
        read("not(not(not(not(in(0,5,9)))))");
        read("not(not(not(not(result(5)))))");
        misread("not(not(not(not(not(in(0,5,9))))))", 3, 22);
        misread("not(not(not(not(not(result(5))))))", 3, 26);
        read("xor(xor(xor(xor(all(),all()),all()),all()),xor(all(),xor(all(),xor(all(),all()))))");
        misread("xor(all(),xor(all(),xor(all(),xor(all(),xor(all(),all())))))", 3, 47);
        read("or(not(not(not(all()))),not(not(not(all()))),not(not(not(all()))),not(not(not(all()))))");
    }

    // Answers. Twelve rows are one group, so that each op takes one step.

    private static void answeredInOrder() {
        says("It is answered from the left, what is within ahead of what it is in.");
        AlignedRuns x = Made.rows(45);
        Made.load(x, 0, 32770, 7);
        Made.load(x, 1, 7, 32770);
        // The last number of each sum: that AND LIVE, which is one fill.
        dueSteps(x, "less(result(0),result(1))", 3, 2, 3 + 2);
        dueSteps(x, "and(result(0),result(1))", 3, 2, 3 + 1);
        dueSteps(x, "and(result(0),result(1),result(0))", 4, 3, 3 + 2 + 1);
        dueSteps(x, "and(result(0),and(result(1),result(0)))", 4, 3, 3 + 2 + 1);
        dueSteps(x, "and(result(0),result(0),result(1))", 4, 3, 2 + 3 + 1);
        dueSteps(x, "or(not(result(0)),result(1))", 3, 3, 2 + 3 + 2);
        dueSteps(x, "not(or(result(0),result(1)))", 3, 3, 3 + 3 + 3);
    }

    private static void dueSteps(AlignedRuns x, String text, int readings, int ops, int steps) {
        due("fault of " + text, true, () -> Made.ask(x, 5, text) >= 0);
        due("readings of " + text, readings, () -> x.cost(0));
        due("ops of " + text, ops, () -> x.cost(1));
        due("steps of " + text, steps, () -> x.cost(2));
    }

    private static void allAndNone() {
        says("All: a BITMAP of all ROWS; none: of none (no READINGS).");
        AlignedRuns x = Made.twelve("range 4x3 of 12");
        answer(x, "all()", 12, 1, 1);
        answer(x, "none()", 0, 1, 1);
        x.delete(5);
        answer(x, "all()", 11, 1, 1);
        answer(x, "not(none())", 11, 1, 2);
        AlignedRuns none = new AlignedRuns();
        due("all of no rows", 0, () -> Made.ask(none, 0, "all()"));
        due("a reading", 1, () -> none.cost(0));
        due("an op", 1, () -> none.cost(1));
        due("no steps", 0, () -> none.cost(2));
        AlignedRuns full = Made.rows(1500);
        due("all of 1,500", 1500, () -> Made.ask(full, 0, "all()"));
        due("one step", 1, () -> full.cost(2));
    }

    private static void joinedFromTheLeft() {
        says("and, or: the first with the second one, that with the third, and so on.");
        AlignedRuns x = Made.twelve("equal 4x3 of 12");
        answer(x, "or(eq(0,0),eq(0,1))", 2, 5, 4);
        answer(x, "or(eq(0,0),eq(0,1),eq(0,2))", 3, 7, 6);
        answer(x, "or(eq(0,0),eq(0,1),eq(0,2),eq(0,3))", 4, 9, 8);
        answer(x, "and(le(0,3),ge(0,3))", 1, 5 + 4 + 1, 4 + 4 + 1 + 1);
        answer(x, "and(all(),all(),none(),all())", 0, 1, 4);
        answer(x, "less(all(),and(all(),less(all(),and(all(),le(0,3)))))", 4, 6, 9);
        answer(x, "less(all(),xor(all(),less(all(),and(all(),in(0,3,6)))))", 8, 5 + 4 + 1, 4 + 3 + 1 + 4 + 1);
        answer(x, "or(none(),none(),none(),all())", 12, 1, 4);
    }

    private static void upToByRange() {
        says("N is CARD less 1 at least: all.");
        AlignedRuns x = Made.twelve("range 4x3 of 12", "range 4x4 of 12");
        answer(x, "le(0,10)", 11, 3, 2);
        answer(x, "le(0,11)", 12, 1, 1);
        answer(x, "le(0,12)", 12, 1, 1);
        answer(x, "le(0,999)", 12, 1, 1);
        answer(x, "le(1,10)", 11, 4, 3);
        answer(x, "le(1,11)", 12, 1, 1);
        says("R is BITMAP x1 of COMPONENT 1, or all, if x1 is BASE less 1; then for each next COMPONENT: if its x is not BASE less 1: "
            + "R AND its BITMAP x; then, if x is not 0: R OR its BITMAP x less 1.");
        answer(x, "le(0,0)", 1, 3, 2);
        answer(x, "le(0,2)", 3, 3, 2);
        answer(x, "le(0,3)", 4, 2, 2);
        answer(x, "le(0,4)", 5, 4, 3);
        answer(x, "le(0,7)", 8, 3, 3);
        answer(x, "le(0,8)", 9, 3, 2);
        AlignedRuns y = Made.twelve("range 2x2x3 of 12", "range 12 of 12");
        answer(y, "le(0,0)", 1, 4, 3);
        answer(y, "le(0,1)", 2, 3, 3);
        answer(y, "le(0,3)", 4, 3, 3);
        answer(y, "le(0,4)", 5, 5, 4);
        answer(y, "le(0,9)", 10, 3, 3);
        answer(y, "le(0,10)", 11, 4, 3);
        answer(y, "le(1,0)", 1, 2, 1);
        answer(y, "le(1,10)", 11, 2, 1);
        answer(y, "le(1,11)", 12, 1, 1);
    }

    private static void upToByEqual() {
        says("By \"equal\": R is BITMAP 0 of COMPONENT 1, OR each next one up to x1; then for each next COMPONENT: R AND its BITMAP x, "
            + "then OR each of its BITMAPS 0 to x less 1, in order.");
        AlignedRuns x = Made.twelve("equal 4x3 of 12", "equal 12 of 12");
        answer(x, "le(0,0)", 1, 3, 2);
        answer(x, "le(0,3)", 4, 6, 5);
        answer(x, "le(0,4)", 5, 4, 3);
        answer(x, "le(0,10)", 11, 7, 6);
        answer(x, "le(0,11)", 12, 1, 1);
        answer(x, "le(0,999)", 12, 1, 1);
        answer(x, "le(1,0)", 1, 2, 1);
        answer(x, "le(1,10)", 11, 12, 11);
        answer(x, "le(1,11)", 12, 1, 1);
        AlignedRuns y = Made.with("equal 3 of 3");
        y.many(15, 0, 0, 0, 0);
        y.many(15, 1, 0, 0, 0);
        y.many(15, 2, 0, 0, 0);
        dueSteps(y, "le(0,1)", 3, 2, 3 + 2);
        AlignedRuns z = Made.with("equal 2x3 of 6");
        for (int v = 0; v < 6; v++) {
            z.many(15, v, 0, 0, 0);
        }
        // Groups 0, 2, 4 AND 4, 5 (6 steps): 4; OR 0, 1 (4 steps); OR 2, 3 (4 steps): 0 to 4; AND LIVE (2 steps).
        dueSteps(z, "le(0,4)", 5, 4, 6 + 4 + 4 + 2);
    }

    private static void below() {
        says("lt(C, N): none, if N is 0; else le of N less 1.");
        AlignedRuns x = Made.twelve("range 4x3 of 12", "equal 4x3 of 12");
        answer(x, "lt(0,0)", 0, 1, 1);
        answer(x, "lt(0,1)", 1, 3, 2);
        answer(x, "lt(0,11)", 11, 3, 2);
        answer(x, "lt(0,12)", 12, 1, 1);
        answer(x, "lt(0,13)", 12, 1, 1);
        answer(x, "lt(0,999)", 12, 1, 1);
        answer(x, "lt(1,0)", 0, 1, 1);
        answer(x, "lt(1,4)", 4, 6, 5);
        answer(x, "lt(1,12)", 12, 1, 1);
    }

    private static void notBelow() {
        says("ge: lt, TURNED.");
        AlignedRuns x = Made.twelve("range 4x3 of 12");
        answer(x, "ge(0,0)", 12, 1, 2);
        answer(x, "ge(0,1)", 11, 3, 3);
        answer(x, "ge(0,11)", 1, 3, 3);
        answer(x, "ge(0,12)", 0, 1, 2);
        answer(x, "ge(0,999)", 0, 1, 2);
    }

    private static void above() {
        says("gt: le, TURNED.");
        AlignedRuns x = Made.twelve("range 4x3 of 12");
        answer(x, "gt(0,0)", 11, 3, 3);
        answer(x, "gt(0,10)", 1, 3, 3);
        answer(x, "gt(0,11)", 0, 1, 2);
        answer(x, "gt(0,999)", 0, 1, 2);
    }

    private static void unequal() {
        says("ne: eq, TURNED.");
        AlignedRuns x = Made.twelve("range 4x3 of 12", "equal 4x3 of 12");
        answer(x, "ne(0,0)", 11, 3, 3);
        answer(x, "ne(0,11)", 11, 3, 5);
        answer(x, "ne(0,12)", 12, 1, 2);
        answer(x, "ne(0,999)", 12, 1, 2);
        answer(x, "ne(1,11)", 11, 3, 3);
        answer(x, "ne(1,12)", 12, 1, 2);
    }

    private static void between() {
        says("in(C, N, M): none, if N is above M; le of M, if N is 0; else le of M, then le of N less 1: the first LESS the second one.");
        AlignedRuns x = Made.twelve("range 4x3 of 12");
        answer(x, "all()", 12, 1, 1);
        answer(x, "in(0,5,4)", 0, 1, 1);
        answer(x, "all()", 12, 1, 1);
        answer(x, "in(0,1,0)", 0, 1, 1);
        answer(x, "in(0,999,0)", 0, 1, 1);
        answer(x, "in(0,0,0)", 1, 3, 2);
        answer(x, "in(0,0,4)", 5, 4, 3);
        answer(x, "in(0,0,11)", 12, 1, 1);
        answer(x, "in(0,1,1)", 1, 5, 4);
        answer(x, "in(0,1,11)", 11, 3, 3);
        answer(x, "in(0,11,11)", 1, 3, 3);
        answer(x, "in(0,11,12)", 1, 3, 3);
        answer(x, "in(0,12,12)", 0, 1, 2);
        answer(x, "in(0,12,11)", 0, 1, 1);
        answer(x, "in(0,999,999)", 0, 1, 2);
        answer(x, "in(0,5,8)", 4, 3 - 1 + 4 - 1 + 1, 2 - 1 + 3 - 1 + 1 + 1);
    }

    private static void equalByRange() {
        says("eq(C, N): none, if N is CARD at least. Else of each COMPONENT, by \"range\": BITMAP 0, if x is 0; "
            + "BITMAP BASE less 2, TURNED, if x is BASE less 1; else BITMAP x XOR BITMAP x less 1");
        AlignedRuns x = Made.twelve("range 4x3 of 12", "range 4x4 of 12");
        answer(x, "eq(0,0)", 1, 3, 2);
        answer(x, "eq(0,1)", 1, 4, 3);
        answer(x, "eq(0,2)", 1, 4, 3);
        answer(x, "eq(0,3)", 1, 3, 3);
        answer(x, "eq(0,5)", 1, 5, 4);
        answer(x, "eq(0,11)", 1, 3, 4);
        answer(x, "eq(0,12)", 0, 1, 1);
        answer(x, "eq(0,999)", 0, 1, 1);
        answer(x, "eq(1,11)", 1, 4, 4);
        answer(x, "eq(1,12)", 0, 1, 1);
        AlignedRuns y = Made.twelve("range 2x2x3 of 12");
        answer(y, "eq(0,0)", 1, 4, 3);
        answer(y, "eq(0,1)", 1, 4, 4);
        answer(y, "eq(0,3)", 1, 4, 5);
        answer(y, "eq(0,7)", 1, 5, 6);
        answer(y, "eq(0,11)", 1, 4, 6);
    }

    private static void equalByEqual() {
        says("by \"equal\": BITMAP x. That of COMPONENT 1 AND that of 2 (it is made first), that AND that of 3, and so on.");
        AlignedRuns x = Made.twelve("equal 4x3 of 12", "equal 12 of 12", "equal 2x2x3 of 12", "equal 2x2x2x2 of 12");
        for (int n : new int[] {0, 3, 4, 11}) {
            answer(x, "eq(0," + n + ")", 1, 3, 2);
            answer(x, "eq(1," + n + ")", 1, 2, 1);
            answer(x, "eq(2," + n + ")", 1, 4, 3);
            answer(x, "eq(3," + n + ")", 1, 5, 4);
        }
        for (int c = 0; c < 4; c++) {
            answer(x, "eq(" + c + ",12)", 0, 1, 1);
            answer(x, "eq(" + c + ",999)", 0, 1, 1);
        }
    }

    private static void inTheEnd() {
        says("In the end it is: that AND LIVE (with a READING, an OP more).");
        AlignedRuns x = Made.twelve("range 4x3 of 12");
        x.delete(0);
        x.delete(11);
        answer(x, "all()", 10, 1, 1);
        answer(x, "eq(0,0)", 0, 3, 2);
        answer(x, "ne(0,0)", 10, 3, 3);
        answer(x, "ge(0,11)", 0, 3, 3);
        answer(x, "not(result(4))", 10, 2, 2);
        AlignedRuns y = Made.rows(60);
        y.delete(59);
        due("rows", 59, () -> Made.ask(y, 0, "all()"));
        due("steps of a fill and what LIVE has", 2, () -> y.cost(2));
    }

    private static void nothingStaysChanged() {
        String asked = "Asked, nothing stays changed.";
        says(asked);
        AlignedRuns x = Made.small();
        Made.ask(x, 0, "le(0,37)");
        Made.ask(x, 1, "eq(1,1)");
        due("what others would be", 4, () -> x.would(1, 0, 1, 0));
        due("words they would have", 1, () -> x.would(2, 0, 1, 1));
        due("within", true, () -> x.within(1, 0));
        due("in how many they differ", 2, () -> x.differ(0, 1));
        due("a result", 27, () -> x.word(0, 0));
        due("another one", 17, () -> x.word(1, 0));
        x.foretold(4, 0, 37, 2);
        x.ordered(0, 1);
        x.readings(0, 0);
        x.kth(0, 6, 2);
        x.thrift(100, 2, 0);
        x.swift(100, 24, 0);
        due("the first after more", 27, () -> x.word(0, 0));
        due("the second after more", 17, () -> x.word(1, 0));
        due("cost of the latest question", 2, () -> x.cost(0));
        due("LIVE", 31, () -> x.word(6, 0));
        due("a value", 37, () -> x.value(0, 0));
        due("a bitmap", 18, () -> x.indexWord(0, 1, 5, 0));
        due("an answer again", 4, () -> Made.ask(x, 2, "le(0,37)"));
    }
}
