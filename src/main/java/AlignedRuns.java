import java.util.NoSuchElementException;

/**
 * An index of bitmaps told by words of runs and literals, over columns whose values are cut into digits.
 * The promises that it keeps stand in the project's document, DOC.md.
 */
public final class AlignedRuns {
    public static final int NONE = -1;

    private static final int MAX_ROWS = 1500;
    private static final int MAX_MANY = 400;
    private static final int GROUP_ROWS = 15;
    private static final int MAX_GROUPS = 100;
    private static final int MAX_COLUMNS = 4;
    private static final int MAX_COMPONENTS = 4;
    private static final int LEAST_CARD = 2;
    private static final int MAX_CARD = 200;
    private static final int MAX_NUMBER = 999;
    private static final int MAX_BUDGET = 24;
    private static final int NO_SCORE = 1000000;
    private static final int MAX_TEXT = 200;
    private static final int MAX_TAPE = 400;
    private static final int FED_BYTES = 20;
    private static final int LAST_RESULT = 5;
    private static final int LIVE = 6;

    private static final int FULL = 32767;
    private static final int FILL_WORD = 32768;
    private static final int FILL_OF_ONES = 16384;
    private static final int FILL_LENGTH = 16383;
    private static final int NO_MASK = -1;

    private static final int AND = 0;
    private static final int OR = 1;
    private static final int XOR = 2;
    private static final int LESS = 3;

    private static final int READINGS = 0;
    private static final int OPS = 1;
    private static final int STEPS = 2;

    private static final String FORMS = "equal,range";
    private static final String BEHIND_BASE = "x,of";
    private static final String CALLS = "le,lt,ge,gt,eq,ne,in,and,or,xor,less,not,all,none,result";
    private static final int CALL_LE = 0;
    private static final int CALL_LT = 1;
    private static final int CALL_GE = 2;
    private static final int CALL_GT = 3;
    private static final int CALL_EQ = 4;
    private static final int CALL_NE = 5;
    private static final int CALL_IN = 6;
    private static final int CALL_AND = 7;
    private static final int CALL_OR = 8;
    private static final int CALL_LESS = 10;
    private static final int CALL_NOT = 11;
    private static final int CALL_ALL = 12;
    private static final int CALL_NONE = 13;
    private static final int CALL_RESULT = 14;
    private static final int MAX_OPEN = 5;
    private static final int MAX_JOINED = 4;
    private static final int MAX_NOTED = 200;

    private final Tape tape;
    private final Table table;
    private final ColumnText columnText;
    private final WordText wordText;
    private final Question question;
    private final Answerer answerer;
    private final BaseSearch search;
    private final Bitmap spare;
    private final int[] given;
    private final int[] latestCost;
    private int noSuchElements;
    private int wrongArguments;
    private int wrongStates;

    public AlignedRuns() {
        tape = new Tape();
        table = new Table();
        columnText = new ColumnText(tape);
        wordText = new WordText(tape);
        question = new Question(tape, table);
        answerer = new Answerer(table);
        search = new BaseSearch();
        spare = new Bitmap();
        given = new int[MAX_COLUMNS];
        latestCost = new int[3];
    }

    public int feed(int a, int b, int c, int d, int e) {
        if (tape.size > MAX_TAPE - FED_BYTES) {
            return NONE;
        }
        tape.put(a);
        tape.put(b);
        tape.put(c);
        tape.put(d);
        tape.put(e);
        return tape.size;
    }

    public int column(int n) throws IllegalArgumentException, IllegalStateException {
        needArgument(isTextLength(n));
        needState(table.rows == 0 && table.columnCount < MAX_COLUMNS);
        tape.take(n);
        Column made = columnText.readColumn();
        if (made == null) {
            return tape.refusal();
        }
        return table.addColumn(made);
    }

    public int add(int a, int b, int c, int d) throws IllegalArgumentException, IllegalStateException {
        give(a, b, c, d);
        needArgument(table.fits(given));
        needState(table.rows < MAX_ROWS);
        table.append(1, given);
        return table.rows - 1;
    }

    public int many(int rows, int a, int b, int c, int d) throws IllegalArgumentException, IllegalStateException {
        give(a, b, c, d);
        needArgument(rows >= 1 && rows <= MAX_MANY && table.fits(given));
        needState(table.rows <= MAX_ROWS - rows);
        table.append(rows, given);
        return table.rows;
    }

    public int delete(int row) throws NoSuchElementException {
        needElement(table.hasRow(row) && table.live().contains(row));
        table.live().put(row, false);
        return table.live().count();
    }

    public int close() {
        return table.closeUp();
    }

    public int ask(int result, int n) throws NoSuchElementException, IllegalArgumentException {
        needElement(isResult(result));
        needArgument(isTextLength(n));
        tape.take(n);
        if (!question.isRead()) {
            return tape.refusal();
        }
        Bitmap answer = answerer.answerTo(question);
        for (int i = 0; i < latestCost.length; i++) {
            latestCost[i] = answerer.spent[i];
        }
        table.results[result].copyFrom(answer);
        return answer.count();
    }

    public int load(int result, int n) throws NoSuchElementException, IllegalArgumentException {
        needElement(isResult(result));
        needArgument(n >= 0 && n <= tape.size);
        tape.take(n);
        spare.fillTo(0);
        wordText.readInto(spare, table.rows);
        if (!tape.isSound()) {
            return tape.refusal();
        }
        table.results[result].copyFrom(spare);
        return spare.count();
    }

    public int fault() {
        return tape.place;
    }

    public int logic(int kind, int first, int second, int to) throws NoSuchElementException, IllegalArgumentException {
        needElement(isResult(first) && isResult(second) && isResult(to));
        needArgument(kind >= AND && kind <= LESS);
        Bitmap changed = table.results[to];
        changed.becomeLogic(kind, table.results[first], table.results[second]);
        return changed.count();
    }

    public int turn(int result) throws NoSuchElementException {
        needElement(isResult(result));
        table.results[result].turnOver(table.rows);
        return table.results[result].count();
    }

    public int told(int what) throws IllegalArgumentException {
        needArgument(what >= 0 && what <= 6);
        switch (what) {
            case 0: return table.columnCount;
            case 1: return table.rows;
            case 2: return table.live().count();
            case 3: return table.groupsUsed();
            case 4: return table.bitmapCount();
            case 5: return table.wordsOfAll();
            default: return tape.size;
        }
    }

    public int columnOf(int column, int what) throws NoSuchElementException, IllegalArgumentException {
        Column asked = existingColumn(column);
        needArgument(what >= 0 && what <= 4);
        switch (what) {
            case 0: return asked.card;
            case 1: return asked.parts;
            case 2: return asked.byRange ? 1 : 0;
            case 3: return asked.bitmaps.length;
            default: return asked.wordsOfColumn(table.groupsUsed());
        }
    }

    public int base(int column, int component) throws NoSuchElementException {
        Column asked = existingColumn(column);
        needElement(asked.hasComponent(component));
        return asked.bases[component - 1];
    }

    public int index(int column, int component, int bitmap, int what) throws NoSuchElementException, IllegalArgumentException {
        Bitmap asked = existingBitmap(column, component, bitmap);
        needArgument(what >= 0 && what <= 5);
        return asked.measure(what, table.groupsUsed());
    }

    public int indexWord(int column, int component, int bitmap, int k) throws NoSuchElementException {
        return existingWord(existingBitmap(column, component, bitmap), k);
    }

    public int result(int result, int what) throws NoSuchElementException, IllegalArgumentException {
        Bitmap asked = existingResult(result);
        needArgument(what >= 0 && what <= 7);
        return asked.measure(what, table.groupsUsed());
    }

    public int word(int result, int k) throws NoSuchElementException {
        return existingWord(existingResult(result), k);
    }

    public boolean has(int result, int row) throws NoSuchElementException {
        Bitmap asked = existingResult(result);
        needElement(table.hasRow(row));
        return asked.contains(row);
    }

    public int rank(int result, int row) throws NoSuchElementException, IllegalArgumentException {
        Bitmap asked = existingResult(result);
        needArgument(row >= 0 && row <= table.rows);
        return asked.countBelow(row);
    }

    public int select(int result, int k) throws NoSuchElementException {
        return existingResult(result).nthRow(k);
    }

    public int next(int result, int row) throws NoSuchElementException, IllegalArgumentException {
        Bitmap asked = existingResult(result);
        needArgument(row >= 0 && row <= table.rows);
        return asked.firstRowFrom(row);
    }

    public int would(int kind, int first, int second, int what) throws NoSuchElementException, IllegalArgumentException {
        Bitmap one = existingResult(first);
        Bitmap other = existingResult(second);
        needArgument(kind >= AND && kind <= LESS && what >= 0 && what <= 2);
        if (what == 2) {
            return one.stepsWith(other, table.groupsUsed());
        }
        spare.becomeLogic(kind, one, other);
        return what == 0 ? spare.count() : spare.wordCount(table.groupsUsed());
    }

    public boolean within(int result, int other) throws NoSuchElementException {
        Bitmap inner = existingResult(result);
        Bitmap outer = existingResult(other);
        spare.becomeLogic(LESS, inner, outer);
        return spare.count() == 0;
    }

    public int cost(int what) throws IllegalArgumentException {
        needArgument(what >= READINGS && what <= STEPS);
        return latestCost[what];
    }

    public int value(int column, int row) throws NoSuchElementException {
        Column asked = existingColumn(column);
        needElement(table.hasRow(row));
        return asked.values[row];
    }

    public int sum(int column, int result) throws NoSuchElementException {
        tallyValues(column, result);
        int total = 0;
        for (int v = 0; v < MAX_CARD; v++) {
            total += v * table.tally[v];
        }
        return total;
    }

    public int kth(int column, int result, int k) throws NoSuchElementException {
        tallyValues(column, result);
        if (k < 0) {
            return NONE;
        }
        int left = k;
        for (int v = 0; v < MAX_CARD; v++) {
            if (left < table.tally[v]) {
                return v;
            }
            left -= table.tally[v];
        }
        return NONE;
    }

    public int mode(int column, int result, int what) throws NoSuchElementException, IllegalArgumentException {
        tallyValues(column, result);
        needArgument(what == 0 || what == 1);
        int most = 0;
        int which = NONE;
        for (int v = 0; v < MAX_CARD; v++) {
            if (table.tally[v] > most) {
                most = table.tally[v];
                which = v;
            }
        }
        return what == 0 ? which : most;
    }

    public int unlike(int column, int result) throws NoSuchElementException {
        tallyValues(column, result);
        int kinds = 0;
        for (int v = 0; v < MAX_CARD; v++) {
            if (table.tally[v] > 0) {
                kinds++;
            }
        }
        return kinds;
    }

    public int span(int column, int result, int low, int high) throws NoSuchElementException, IllegalArgumentException {
        tallyValues(column, result);
        needArgument(low >= 0 && low <= MAX_NUMBER && high >= 0 && high <= MAX_NUMBER);
        int rows = 0;
        for (int v = low; v <= high && v < MAX_CARD; v++) {
            rows += table.tally[v];
        }
        return rows;
    }

    public int foretold(int kind, int column, int n, int what) throws NoSuchElementException, IllegalArgumentException {
        existingColumn(column);
        needArgument(kind >= CALL_LE && kind <= CALL_NE && n >= 0 && n <= MAX_NUMBER);
        needArgument(what >= READINGS && what <= STEPS);
        question.becomeComparison(kind, column, n);
        answerer.answerTo(question);
        return answerer.spent[what];
    }

    public int differ(int result, int other) throws NoSuchElementException {
        Bitmap one = existingResult(result);
        Bitmap two = existingResult(other);
        spare.becomeLogic(XOR, one, two);
        return spare.count();
    }

    public int group(int result, int k, int what) throws NoSuchElementException, IllegalArgumentException {
        Bitmap asked = existingResult(result);
        needElement(k >= 0 && k < table.groupsUsed());
        needArgument(what >= 0 && what <= 2);
        switch (what) {
            case 0: return asked.groups[k];
            case 1: return asked.groupsOfWordAt(k, table.groupsUsed());
            default: return asked.wordCount(k + 1) - 1;
        }
    }

    public int widest(int result) throws NoSuchElementException {
        return existingResult(result).widestFill(table.groupsUsed());
    }

    public int heaviest(int column, int what) throws NoSuchElementException, IllegalArgumentException {
        Column asked = existingColumn(column);
        needArgument(what == 0 || what == 1);
        int most = NONE;
        int which = NONE;
        for (int part = 0; part < asked.parts; part++) {
            int words = asked.wordsOfPart(part, table.groupsUsed());
            if (words > most) {
                most = words;
                which = part + 1;
            }
        }
        return what == 0 ? which : most;
    }

    public int ordered(int column, int by) throws NoSuchElementException {
        Column counted = existingColumn(column);
        Column ordering = existingColumn(by);
        return table.wordsIfOrdered(counted, ordering);
    }

    public int readings(int column, int what) throws NoSuchElementException, IllegalArgumentException {
        Column asked = existingColumn(column);
        needArgument(what == 0 || what == 1);
        int total = 0;
        int most = 0;
        for (int n = 0; n < asked.card; n++) {
            int taken = asked.readingsUpTo(n);
            total += taken;
            most = Math.max(most, taken);
        }
        return what == 0 ? total : most;
    }

    public int thrift(int card, int components, int what) throws IllegalArgumentException {
        needArgument(isCard(card) && components >= 1 && components <= MAX_COMPONENTS);
        needArgument(what >= 0 && what <= MAX_COMPONENTS);
        search.findFewestBitmaps(card, components);
        return search.tell(what);
    }

    public int swift(int card, int bitmaps, int what) throws IllegalArgumentException {
        needArgument(isCard(card) && bitmaps >= 1 && bitmaps <= MAX_BUDGET);
        needArgument(what >= 0 && what <= MAX_COMPONENTS);
        search.findFewestReadings(card, bitmaps);
        return search.tell(what);
    }

    public int status(int what) {
        switch (what) {
            case 0: return noSuchElements;
            case 1: return wrongArguments;
            case 2: return wrongStates;
            default: return NONE;
        }
    }

    private void needElement(boolean there) {
        if (!there) {
            noSuchElements++;
            throw new NoSuchElementException("there is none such");
        }
    }

    private void needArgument(boolean right) {
        if (!right) {
            wrongArguments++;
            throw new IllegalArgumentException("an argument is not one of those allowed");
        }
    }

    private void needState(boolean right) {
        if (!right) {
            wrongStates++;
            throw new IllegalStateException("not in this state");
        }
    }

    private boolean isTextLength(int n) {
        return n >= 0 && n <= MAX_TEXT && n <= tape.size;
    }

    private static boolean isResult(int result) {
        return result >= 0 && result <= LAST_RESULT;
    }

    private static boolean isCard(int card) {
        return card >= LEAST_CARD && card <= MAX_CARD;
    }

    private void give(int a, int b, int c, int d) {
        given[0] = a;
        given[1] = b;
        given[2] = c;
        given[3] = d;
    }

    private Bitmap existingResult(int result) {
        needElement(result >= 0 && result <= LIVE);
        return table.results[result];
    }

    private Column existingColumn(int column) {
        needElement(column >= 0 && column < table.columnCount);
        return table.columns[column];
    }

    private Bitmap existingBitmap(int column, int component, int bitmap) {
        Column asked = existingColumn(column);
        needElement(asked.hasComponent(component));
        needElement(bitmap >= 0 && bitmap < asked.bitmapsOfPart(component - 1));
        return asked.bitmapAt(component - 1, bitmap);
    }

    private int existingWord(Bitmap asked, int k) {
        needElement(k >= 0 && k < asked.wordCount(table.groupsUsed()));
        return asked.wordAt(k, table.groupsUsed());
    }

    private void tallyValues(int column, int result) {
        Column asked = existingColumn(column);
        table.tallyOf(asked, existingResult(result));
    }

    /** Bits of rows beyond the last one are always 0, so only what tells of words has to know how many groups there are. */
    private static final class Bitmap {
        final int[] groups = new int[MAX_GROUPS];

        boolean contains(int row) {
            return row >= 0 && row < MAX_ROWS && (groups[row / GROUP_ROWS] >> (row % GROUP_ROWS) & 1) == 1;
        }

        void put(int row, boolean there) {
            if (row >= 0 && row < MAX_ROWS) {
                int bit = 1 << (row % GROUP_ROWS);
                int g = row / GROUP_ROWS;
                groups[g] = there ? groups[g] | bit : groups[g] & ~bit;
            }
        }

        void copyFrom(Bitmap other) {
            System.arraycopy(other.groups, 0, groups, 0, MAX_GROUPS);
        }

        void fillTo(int rows) {
            for (int g = 0; g < MAX_GROUPS; g++) {
                groups[g] = rowsOfGroup(g, rows);
            }
        }

        void turnOver(int rows) {
            for (int g = 0; g < MAX_GROUPS; g++) {
                groups[g] = ~groups[g] & rowsOfGroup(g, rows);
            }
        }

        static int rowsOfGroup(int g, int rows) {
            int here = Math.max(0, Math.min(GROUP_ROWS, rows - g * GROUP_ROWS));
            return (1 << here) - 1;
        }

        void becomeLogic(int kind, Bitmap first, Bitmap second) {
            for (int g = 0; g < MAX_GROUPS; g++) {
                int a = first.groups[g];
                int b = second.groups[g];
                switch (kind) {
                    case AND: groups[g] = a & b; break;
                    case OR: groups[g] = a | b; break;
                    case XOR: groups[g] = a ^ b; break;
                    default: groups[g] = a & ~b; break;
                }
            }
        }

        /** Fills are as long as they can be, so a step goes on just while both sides repeat their fills. */
        int stepsWith(Bitmap other, int used) {
            int steps = 0;
            int before = NO_MASK;
            int otherBefore = NO_MASK;
            for (int g = 0; g < used; g++) {
                int mask = groups[g];
                int otherMask = other.groups[g];
                if (startsWord(mask, before) || startsWord(otherMask, otherBefore)) {
                    steps++;
                }
                before = mask;
                otherBefore = otherMask;
            }
            return steps;
        }

        static boolean startsWord(int mask, int before) {
            return mask != before || (mask != 0 && mask != FULL);
        }

        int wordCount(int used) {
            int words = 0;
            int before = NO_MASK;
            for (int g = 0; g < used; g++) {
                if (startsWord(groups[g], before)) {
                    words++;
                }
                before = groups[g];
            }
            return words;
        }

        int literalCount(int used) {
            int literals = 0;
            for (int g = 0; g < used; g++) {
                if (groups[g] != 0 && groups[g] != FULL) {
                    literals++;
                }
            }
            return literals;
        }

        int wordAt(int k, int used) {
            int seen = 0;
            int before = NO_MASK;
            for (int g = 0; g < used; g++) {
                if (startsWord(groups[g], before)) {
                    if (seen == k) {
                        return wordFrom(g, used);
                    }
                    seen++;
                }
                before = groups[g];
            }
            return NONE;
        }

        private int wordFrom(int g, int used) {
            int mask = groups[g];
            if (mask != 0 && mask != FULL) {
                return mask;
            }
            return FILL_WORD + (mask == FULL ? FILL_OF_ONES : 0) + groupsOfWordAt(g, used);
        }

        int groupsOfWordAt(int k, int used) {
            int mask = groups[k];
            if (mask != 0 && mask != FULL) {
                return 1;
            }
            int from = k;
            while (from > 0 && groups[from - 1] == mask) {
                from--;
            }
            int to = k + 1;
            while (to < used && groups[to] == mask) {
                to++;
            }
            return to - from;
        }

        int widestFill(int used) {
            int widest = 0;
            int length = 0;
            int before = NO_MASK;
            for (int g = 0; g < used; g++) {
                int mask = groups[g];
                if (mask != 0 && mask != FULL) {
                    length = 0;
                } else {
                    length = mask == before ? length + 1 : 1;
                }
                widest = Math.max(widest, length);
                before = mask;
            }
            return widest;
        }

        int measure(int what, int used) {
            switch (what) {
                case 0: return count();
                case 1: return wordCount(used);
                case 2: return literalCount(used);
                case 3: return wordCount(used) - literalCount(used);
                case 4: return firstRowFrom(0);
                case 5: return lastRow();
                case 6: return stretchCount();
                default: return longestStretch();
            }
        }

        int count() {
            int rows = 0;
            for (int g = 0; g < MAX_GROUPS; g++) {
                rows += Integer.bitCount(groups[g]);
            }
            return rows;
        }

        int countBelow(int row) {
            int rows = 0;
            for (int g = 0; g < MAX_GROUPS; g++) {
                rows += Integer.bitCount(groups[g] & rowsOfGroup(g, row));
            }
            return rows;
        }

        int nthRow(int k) {
            if (k < 0) {
                return NONE;
            }
            int left = k;
            for (int g = 0; g < MAX_GROUPS; g++) {
                int here = Integer.bitCount(groups[g]);
                if (left < here) {
                    return nthOfGroup(g, left);
                }
                left -= here;
            }
            return NONE;
        }

        private int nthOfGroup(int g, int k) {
            int mask = groups[g];
            for (int i = 0; i < k; i++) {
                mask &= mask - 1;
            }
            return g * GROUP_ROWS + Integer.numberOfTrailingZeros(mask);
        }

        int firstRowFrom(int row) {
            for (int g = 0; g < MAX_GROUPS; g++) {
                int mask = groups[g] & ~rowsOfGroup(g, row);
                if (mask != 0) {
                    return g * GROUP_ROWS + Integer.numberOfTrailingZeros(mask);
                }
            }
            return NONE;
        }

        int lastRow() {
            for (int g = MAX_GROUPS - 1; g >= 0; g--) {
                if (groups[g] != 0) {
                    return g * GROUP_ROWS + 31 - Integer.numberOfLeadingZeros(groups[g]);
                }
            }
            return NONE;
        }

        int stretchCount() {
            int stretches = 0;
            boolean before = false;
            for (int row = 0; row < MAX_ROWS; row++) {
                boolean now = contains(row);
                if (now && !before) {
                    stretches++;
                }
                before = now;
            }
            return stretches;
        }

        int longestStretch() {
            int longest = 0;
            int length = 0;
            for (int row = 0; row < MAX_ROWS; row++) {
                length = contains(row) ? length + 1 : 0;
                longest = Math.max(longest, length);
            }
            return longest;
        }

        void keepRowsOf(Bitmap kept, int rows) {
            int to = 0;
            for (int row = 0; row < rows; row++) {
                if (kept.contains(row)) {
                    put(to, contains(row));
                    to++;
                }
            }
            for (int row = to; row < rows; row++) {
                put(row, false);
            }
        }
    }

    /** A column's values, and its bitmaps, those of its components one behind the other. */
    private static final class Column {
        final boolean byRange;
        final int card;
        final int parts;
        final int[] bases;
        final int[] weights;
        final int[] firsts;
        final Bitmap[] bitmaps;
        final int[] values;

        Column(boolean byRange, int card, int parts, int[] bases) {
            this.byRange = byRange;
            this.card = card;
            this.parts = parts;
            this.bases = new int[parts];
            weights = new int[parts];
            firsts = new int[parts];
            values = new int[MAX_ROWS];
            int weight = 1;
            int bitmapCount = 0;
            for (int part = 0; part < parts; part++) {
                this.bases[part] = bases[part];
                weights[part] = weight;
                firsts[part] = bitmapCount;
                weight *= bases[part];
                bitmapCount += byRange ? bases[part] - 1 : bases[part];
            }
            bitmaps = new Bitmap[bitmapCount];
            for (int i = 0; i < bitmapCount; i++) {
                bitmaps[i] = new Bitmap();
            }
        }

        boolean hasComponent(int component) {
            return component >= 1 && component <= parts;
        }

        int bitmapsOfPart(int part) {
            return byRange ? bases[part] - 1 : bases[part];
        }

        Bitmap bitmapAt(int part, int j) {
            return bitmaps[firsts[part] + j];
        }

        int digitOf(int part, int number) {
            return number / weights[part] % bases[part];
        }

        boolean isTop(int part, int digit) {
            return digit == bases[part] - 1;
        }

        int wordsOfPart(int part, int used) {
            int words = 0;
            for (int j = 0; j < bitmapsOfPart(part); j++) {
                words += bitmapAt(part, j).wordCount(used);
            }
            return words;
        }

        int wordsOfColumn(int used) {
            int words = 0;
            for (int part = 0; part < parts; part++) {
                words += wordsOfPart(part, used);
            }
            return words;
        }

        int readingsUpTo(int n) {
            if (n >= card - 1) {
                return 0;
            }
            int taken = 0;
            for (int part = 0; part < parts; part++) {
                int x = digitOf(part, n);
                if (byRange) {
                    taken += isTop(part, x) ? 0 : 1;
                    taken += part > 0 && x > 0 ? 1 : 0;
                } else {
                    taken += x + 1;
                }
            }
            return taken;
        }

        /** Masks of one group, a bitmap each, as they would be if the rows had these values. */
        void gatherMasks(int part, int g, int rows, int[] ofRows, int[] masks) {
            for (int j = 0; j < bases[part]; j++) {
                masks[j] = 0;
            }
            for (int i = 0; i < GROUP_ROWS; i++) {
                int row = g * GROUP_ROWS + i;
                if (row < rows) {
                    masks[digitOf(part, ofRows[row])] |= 1 << i;
                }
            }
            if (byRange) {
                for (int j = 1; j < bases[part]; j++) {
                    masks[j] |= masks[j - 1];
                }
            }
        }

        void regroup(int from, int to, int rows, int[] masks) {
            for (int g = from; g < to; g++) {
                for (int part = 0; part < parts; part++) {
                    gatherMasks(part, g, rows, values, masks);
                    for (int j = 0; j < bitmapsOfPart(part); j++) {
                        bitmapAt(part, j).groups[g] = masks[j];
                    }
                }
            }
        }

        void keepRowsOf(Bitmap kept, int rows) {
            int to = 0;
            for (int row = 0; row < rows; row++) {
                if (kept.contains(row)) {
                    values[to] = values[row];
                    to++;
                }
            }
        }
    }

    /** The columns, the rows, and the results with LIVE behind them. */
    private static final class Table {
        final Column[] columns = new Column[MAX_COLUMNS];
        final Bitmap[] results = new Bitmap[LIVE + 1];
        final Bitmap everyRow = new Bitmap();
        final int[] tally = new int[MAX_CARD];
        final int[] arranged = new int[MAX_ROWS];
        final int[] masks = new int[MAX_CARD];
        final int[] masksBefore = new int[MAX_CARD];
        int columnCount;
        int rows;

        Table() {
            for (int i = 0; i < results.length; i++) {
                results[i] = new Bitmap();
            }
        }

        Bitmap live() {
            return results[LIVE];
        }

        boolean hasRow(int row) {
            return row >= 0 && row < rows;
        }

        int groupsUsed() {
            return (rows + GROUP_ROWS - 1) / GROUP_ROWS;
        }

        int addColumn(Column made) {
            columns[columnCount] = made;
            columnCount++;
            return columnCount - 1;
        }

        int bitmapCount() {
            int bitmaps = 0;
            for (int c = 0; c < columnCount; c++) {
                bitmaps += columns[c].bitmaps.length;
            }
            return bitmaps;
        }

        int wordsOfAll() {
            int words = 0;
            for (int c = 0; c < columnCount; c++) {
                words += columns[c].wordsOfColumn(groupsUsed());
            }
            return words;
        }

        boolean fits(int[] row) {
            for (int c = 0; c < columnCount; c++) {
                if (row[c] < 0 || row[c] >= columns[c].card) {
                    return false;
                }
            }
            return true;
        }

        void append(int count, int[] row) {
            int from = rows;
            rows += count;
            for (int i = from; i < rows; i++) {
                live().put(i, true);
            }
            for (int c = 0; c < columnCount; c++) {
                for (int i = from; i < rows; i++) {
                    columns[c].values[i] = row[c];
                }
                columns[c].regroup(from / GROUP_ROWS, groupsUsed(), rows, masks);
            }
        }

        int closeUp() {
            int kept = live().count();
            int gone = rows - kept;
            if (gone == 0) {
                return 0;
            }
            int groupsBefore = groupsUsed();
            for (int c = 0; c < columnCount; c++) {
                columns[c].keepRowsOf(live(), rows);
                columns[c].regroup(0, groupsBefore, kept, masks);
            }
            for (int i = 0; i <= LAST_RESULT; i++) {
                results[i].keepRowsOf(live(), rows);
            }
            live().fillTo(kept);
            rows = kept;
            return gone;
        }

        void tallyOf(Column column, Bitmap among) {
            for (int v = 0; v < MAX_CARD; v++) {
                tally[v] = 0;
            }
            for (int row = 0; row < rows; row++) {
                if (among.contains(row)) {
                    tally[column.values[row]]++;
                }
            }
        }

        int wordsIfOrdered(Column counted, Column ordering) {
            arrange(counted, ordering);
            int words = 0;
            for (int part = 0; part < counted.parts; part++) {
                words += arrangedWords(counted, part);
            }
            return words;
        }

        private void arrange(Column moved, Column ordering) {
            everyRow.fillTo(rows);
            tallyOf(ordering, everyRow);
            int from = 0;
            for (int v = 0; v < MAX_CARD; v++) {
                int here = tally[v];
                tally[v] = from;
                from += here;
            }
            for (int row = 0; row < rows; row++) {
                int v = ordering.values[row];
                arranged[tally[v]] = moved.values[row];
                tally[v]++;
            }
        }

        private int arrangedWords(Column counted, int part) {
            int words = 0;
            for (int j = 0; j < MAX_CARD; j++) {
                masksBefore[j] = NO_MASK;
            }
            for (int g = 0; g < groupsUsed(); g++) {
                counted.gatherMasks(part, g, rows, arranged, masks);
                for (int j = 0; j < counted.bitmapsOfPart(part); j++) {
                    if (Bitmap.startsWord(masks[j], masksBefore[j])) {
                        words++;
                    }
                    masksBefore[j] = masks[j];
                }
            }
            return words;
        }
    }

    /** The bytes that have come, and the reading of a text from them; the first fault stops all further reading. */
    private static final class Tape {
        final int[] bytes = new int[MAX_TAPE];
        int size;
        int length;
        int at;
        int start;
        int kindOfFault;
        int place = NONE;

        void put(int number) {
            for (int shift = 24; shift >= 0 && size < MAX_TAPE; shift -= 8) {
                bytes[size] = number >>> shift & 255;
                size++;
            }
        }

        void take(int n) {
            length = n;
            at = 0;
            start = 0;
            kindOfFault = 0;
            place = NONE;
            size = 0;
        }

        int refusal() {
            return kindOfFault - 10;
        }

        boolean isSound() {
            return kindOfFault == 0;
        }

        void fail(int kind, int where) {
            if (kindOfFault == 0) {
                kindOfFault = kind;
                place = where;
            }
        }

        private void skipBlanks() {
            while (at < length && bytes[at] == ' ') {
                at++;
            }
        }

        boolean isNext(int sign) {
            skipBlanks();
            return at < length && bytes[at] == sign;
        }

        void need(int sign) {
            if (!isSound()) {
                return;
            }
            if (isNext(sign)) {
                at++;
            } else {
                fail(1, at);
            }
        }

        void needEnd() {
            skipBlanks();
            if (at < length) {
                fail(1, at);
            }
        }

        boolean isDigitNext() {
            skipBlanks();
            return at < length && bytes[at] >= '0' && bytes[at] <= '9';
        }

        /** NONE with a fault. */
        int readNumber(int least, int most) {
            if (!isSound()) {
                return NONE;
            }
            if (!isDigitNext()) {
                fail(1, at);
                return NONE;
            }
            start = at;
            int number = 0;
            while (at < length && bytes[at] >= '0' && bytes[at] <= '9') {
                // A number of ever so many digits stays above all that are allowed.
                number = Math.min(number * 10 + bytes[at] - '0', MAX_NUMBER + 1);
                at++;
            }
            if (number < least || number > most) {
                fail(2, start);
                return NONE;
            }
            return number;
        }

        /** Which of the names, parted by commas, stands here; NONE with a fault. */
        int readName(String names) {
            if (!isSound()) {
                return NONE;
            }
            skipBlanks();
            start = at;
            while (at < length && bytes[at] >= 'a' && bytes[at] <= 'z') {
                at++;
            }
            int which = 0;
            int from = 0;
            for (int i = 0; i <= names.length(); i++) {
                if (i == names.length() || names.charAt(i) == ',') {
                    if (isSpelt(names, from, i)) {
                        return which;
                    }
                    which++;
                    from = i + 1;
                }
            }
            fail(1, start);
            return NONE;
        }

        private boolean isSpelt(String names, int from, int to) {
            if (to - from != at - start) {
                return false;
            }
            for (int i = 0; i < to - from; i++) {
                if (names.charAt(from + i) != bytes[start + i]) {
                    return false;
                }
            }
            return true;
        }
    }

    /** Reads the text of a column. */
    private static final class ColumnText {
        final Tape tape;
        final int[] bases = new int[MAX_COMPONENTS];
        int parts;
        int product;

        ColumnText(Tape tape) {
            this.tape = tape;
        }

        /** Null with a fault. */
        Column readColumn() {
            int form = tape.readName(FORMS);
            readBases();
            int card = tape.readNumber(LEAST_CARD, MAX_CARD);
            if (tape.isSound() && product < card) {
                tape.fail(4, tape.start);
            }
            tape.needEnd();
            return tape.isSound() ? new Column(form == 1, card, parts, bases) : null;
        }

        private void readBases() {
            parts = 0;
            product = 1;
            boolean more = tape.isSound();
            while (more && parts <= MAX_COMPONENTS) {
                if (parts == MAX_COMPONENTS && tape.isDigitNext()) {
                    tape.fail(3, tape.at);
                }
                int base = tape.readNumber(LEAST_CARD, MAX_CARD);
                if (!tape.isSound() || parts >= MAX_COMPONENTS) {
                    return;
                }
                bases[parts] = base;
                parts++;
                product *= base;
                more = tape.readName(BEHIND_BASE) == 0;
            }
        }
    }

    /** Reads words brought from outside. */
    private static final class WordText {
        final Tape tape;

        WordText(Tape tape) {
            this.tape = tape;
        }

        void readInto(Bitmap read, int rows) {
            int used = (rows + GROUP_ROWS - 1) / GROUP_ROWS;
            int g = 0;
            int before = 0;
            for (int at = 0; at < tape.length; at += 2) {
                if (at + 1 >= tape.length) {
                    tape.fail(1, at);
                    return;
                }
                int word = tape.bytes[at] * 256 + tape.bytes[at + 1];
                int covered = word >= FILL_WORD ? word & FILL_LENGTH : 1;
                int fault = faultOf(word, before, used - g - covered, rows);
                if (fault != 0) {
                    tape.fail(fault, at);
                    return;
                }
                putWord(read, word, g, covered);
                g += covered;
                before = word;
            }
            if (g < used) {
                tape.fail(7, tape.length);
            }
        }

        /** The least fault of a word behind which so many groups are left; 0 without. */
        private int faultOf(int word, int before, int left, int rows) {
            boolean fill = word >= FILL_WORD;
            boolean ones = (word & FILL_OF_ONES) != 0;
            if (word == 0 || word == FULL) {
                return 2;
            }
            if (fill && (word & FILL_LENGTH) == 0) {
                return 3;
            }
            if (fill && before >= FILL_WORD && (before & FILL_OF_ONES) == (word & FILL_OF_ONES)) {
                return 4;
            }
            if (left < 0) {
                return 5;
            }
            int lastRows = rows % GROUP_ROWS;
            if (left > 0 || lastRows == 0) {
                return 0;
            }
            return (fill ? ones : word >> lastRows != 0) ? 6 : 0;
        }

        private void putWord(Bitmap read, int word, int g, int covered) {
            int mask = word;
            if (word >= FILL_WORD) {
                mask = (word & FILL_OF_ONES) != 0 ? FULL : 0;
            }
            for (int i = g; i < g + covered && i < MAX_GROUPS; i++) {
                read.groups[i] = mask;
            }
        }
    }

    /**
     * Reads a question into calls of a few kinds, in the order in which they are answered:
     * what is within ahead of what it is in. lt, ge, gt, ne and in become le, eq, not and less there.
     */
    private static final class Question {
        final Tape tape;
        final Table table;
        final int[] calls = new int[MAX_NOTED];
        final int[] columns = new int[MAX_NOTED];
        final int[] numbers = new int[MAX_NOTED];
        int length;

        Question(Tape tape, Table table) {
            this.tape = tape;
            this.table = table;
        }

        boolean isRead() {
            length = 0;
            readCall(0);
            tape.needEnd();
            return tape.isSound();
        }

        void becomeComparison(int call, int column, int n) {
            length = 0;
            noteComparison(call, column, n);
        }

        private void readCall(int open) {
            int call = tape.readName(CALLS);
            if (tape.isSound() && tape.isNext('(') && open >= MAX_OPEN) {
                tape.fail(3, tape.at);
            }
            tape.need('(');
            if (!tape.isSound()) {
                return;
            }
            if (call <= CALL_IN) {
                readComparison(call);
            } else if (call <= CALL_LESS) {
                readJoined(call, open + 1);
            } else if (call == CALL_NOT) {
                readTurned(open + 1);
            } else {
                note(call, 0, call == CALL_RESULT ? tape.readNumber(0, LAST_RESULT) : 0);
            }
            tape.need(')');
        }

        private void readComparison(int call) {
            int column = tape.readNumber(0, table.columnCount - 1);
            tape.need(',');
            int n = tape.readNumber(0, MAX_NUMBER);
            int m = n;
            if (call == CALL_IN) {
                tape.need(',');
                m = tape.readNumber(0, MAX_NUMBER);
            }
            if (!tape.isSound()) {
                return;
            }
            if (call == CALL_IN) {
                noteBetween(column, n, m);
            } else {
                noteComparison(call, column, n);
            }
        }

        private void readJoined(int call, int open) {
            boolean upToFour = call == CALL_AND || call == CALL_OR;
            int most = upToFour ? MAX_JOINED : 2;
            readCall(open);
            for (int have = 1; have < most && tape.isSound() && (have == 1 || tape.isNext(',')); have++) {
                tape.need(',');
                readCall(open);
                note(call, 0, 0);
            }
            if (upToFour && tape.isSound() && tape.isNext(',')) {
                tape.fail(3, tape.at);
            }
        }

        private void readTurned(int open) {
            readCall(open);
            note(CALL_NOT, 0, 0);
        }

        private void noteComparison(int call, int column, int n) {
            switch (call) {
                case CALL_LE: case CALL_GT: noteUpTo(column, n); break;
                case CALL_LT: case CALL_GE: noteUpTo(column, n - 1); break;
                default: noteEqual(column, n); break;
            }
            if (call == CALL_GE || call == CALL_GT || call == CALL_NE) {
                note(CALL_NOT, 0, 0);
            }
        }

        private void noteBetween(int column, int n, int m) {
            if (n > m) {
                note(CALL_NONE, 0, 0);
                return;
            }
            noteUpTo(column, m);
            if (n > 0) {
                noteUpTo(column, n - 1);
                note(CALL_LESS, 0, 0);
            }
        }

        private void noteUpTo(int column, int n) {
            if (n < 0) {
                note(CALL_NONE, 0, 0);
            } else if (n >= table.columns[column].card - 1) {
                note(CALL_ALL, 0, 0);
            } else {
                note(CALL_LE, column, n);
            }
        }

        private void noteEqual(int column, int n) {
            note(n < table.columns[column].card ? CALL_EQ : CALL_NONE, column, n);
        }

        private void note(int call, int column, int number) {
            if (length < MAX_NOTED) {
                calls[length] = call;
                columns[length] = column;
                numbers[length] = number;
                length++;
            }
        }
    }

    /** Answers questions, and counts what that takes. */
    private static final class Answerer {
        final Table table;
        final Bitmap[] stack = new Bitmap[MAX_OPEN + 1];
        final Bitmap spare = new Bitmap();
        final int[] spent = new int[3];

        Answerer(Table table) {
            this.table = table;
            for (int i = 0; i < stack.length; i++) {
                stack[i] = new Bitmap();
            }
        }

        Bitmap answerTo(Question question) {
            for (int i = 0; i < spent.length; i++) {
                spent[i] = 0;
            }
            int top = 0;
            for (int i = 0; i < question.length; i++) {
                int call = question.calls[i];
                if (call == CALL_NOT && top >= 1) {
                    turnAround(stack[top - 1]);
                } else if (call >= CALL_AND && call <= CALL_LESS && top >= 2) {
                    top--;
                    join(call - CALL_AND, stack[top - 1], stack[top]);
                } else if (top < stack.length) {
                    makeLeaf(call, question.columns[i], question.numbers[i], stack[top]);
                    top++;
                }
            }
            join(AND, stack[0], read(table.live()));
            return stack[0];
        }

        private void makeLeaf(int call, int column, int number, Bitmap into) {
            switch (call) {
                case CALL_LE: makeUpTo(table.columns[column], number, into); break;
                case CALL_EQ: makeEqual(table.columns[column], number, into); break;
                case CALL_RESULT: into.copyFrom(read(table.results[number])); break;
                default: into.fillTo(call == CALL_ALL ? table.rows : 0); break;
            }
        }

        private void makeUpTo(Column column, int n, Bitmap into) {
            if (column.byRange) {
                makeUpToByRange(column, n, into);
            } else {
                makeUpToByEqual(column, n, into);
            }
        }

        private void makeUpToByRange(Column column, int n, Bitmap into) {
            int x = column.digitOf(0, n);
            if (column.isTop(0, x)) {
                into.fillTo(table.rows);
            } else {
                into.copyFrom(read(column.bitmapAt(0, x)));
            }
            for (int part = 1; part < column.parts; part++) {
                x = column.digitOf(part, n);
                if (!column.isTop(part, x)) {
                    join(AND, into, read(column.bitmapAt(part, x)));
                }
                if (x != 0) {
                    join(OR, into, read(column.bitmapAt(part, x - 1)));
                }
            }
        }

        private void makeUpToByEqual(Column column, int n, Bitmap into) {
            int x = column.digitOf(0, n);
            into.copyFrom(read(column.bitmapAt(0, 0)));
            for (int j = 1; j <= x; j++) {
                join(OR, into, read(column.bitmapAt(0, j)));
            }
            for (int part = 1; part < column.parts; part++) {
                x = column.digitOf(part, n);
                join(AND, into, read(column.bitmapAt(part, x)));
                for (int j = 0; j < x; j++) {
                    join(OR, into, read(column.bitmapAt(part, j)));
                }
            }
        }

        private void makeEqual(Column column, int n, Bitmap into) {
            makeDigit(column, 0, column.digitOf(0, n), into);
            for (int part = 1; part < column.parts; part++) {
                makeDigit(column, part, column.digitOf(part, n), spare);
                join(AND, into, spare);
            }
        }

        private void makeDigit(Column column, int part, int x, Bitmap into) {
            if (!column.byRange || x == 0) {
                into.copyFrom(read(column.bitmapAt(part, x)));
            } else if (column.isTop(part, x)) {
                into.copyFrom(read(column.bitmapAt(part, x - 1)));
                turnAround(into);
            } else {
                into.copyFrom(read(column.bitmapAt(part, x)));
                join(XOR, into, read(column.bitmapAt(part, x - 1)));
            }
        }

        private Bitmap read(Bitmap taken) {
            spent[READINGS]++;
            return taken;
        }

        private void join(int kind, Bitmap into, Bitmap other) {
            spent[OPS]++;
            spent[STEPS] += into.stepsWith(other, table.groupsUsed());
            into.becomeLogic(kind, into, other);
        }

        private void turnAround(Bitmap turned) {
            spent[OPS]++;
            spent[STEPS] += turned.wordCount(table.groupsUsed());
            turned.turnOver(table.rows);
        }
    }

    /**
     * Seeks the best bases for a card. Bases are tried in the order in which the document prefers them,
     * so that only a better score takes the place of the best one so far.
     */
    private static final class BaseSearch {
        final int[] tried = new int[MAX_COMPONENTS];
        final int[] best = new int[MAX_COMPONENTS];
        int card;
        int parts;
        int budget;
        int bestParts;
        int bestScore;

        void findFewestBitmaps(int forCard, int components) {
            start(forCard);
            parts = components;
            tryFewer(0, 1, 0);
        }

        void findFewestReadings(int forCard, int bitmaps) {
            start(forCard);
            budget = bitmaps;
            for (int components = 1; components <= MAX_COMPONENTS; components++) {
                parts = components;
                trySwifter(0, 1, 0, 0);
            }
        }

        int tell(int what) {
            if (what > bestParts || bestParts == 0) {
                return NONE;
            }
            return what == 0 ? bestScore : best[what - 1];
        }

        private void start(int forCard) {
            card = forCard;
            bestParts = 0;
            bestScore = NO_SCORE;
        }

        private void tryFewer(int part, int product, int bitmaps) {
            int behind = parts - part - 1;
            for (int base = LEAST_CARD; base <= MAX_CARD && bitmaps + base - 1 + behind < bestScore; base++) {
                tried[part] = base;
                goOnFewer(part + 1, product * base, bitmaps + base - 1);
            }
        }

        private void goOnFewer(int part, int product, int bitmaps) {
            if (part < parts) {
                tryFewer(part, product, bitmaps);
            } else {
                compareBest(product, bitmaps);
            }
        }

        private void trySwifter(int part, int product, int bitmaps, int score) {
            int behind = parts - part - 1;
            int greatest = budget - bitmaps - behind + 1;
            for (int base = LEAST_CARD; base <= greatest; base++) {
                int more = score + readingsOf(part, product, base);
                if (more < bestScore) {
                    tried[part] = base;
                    goOnSwifter(part + 1, product * base, bitmaps + base - 1, more);
                }
            }
        }

        private void goOnSwifter(int part, int product, int bitmaps, int score) {
            if (part < parts) {
                trySwifter(part, product, bitmaps, score);
            } else {
                compareBest(product, score);
            }
        }

        private void compareBest(int product, int score) {
            if (product >= card && score < bestScore) {
                bestScore = score;
                bestParts = parts;
                System.arraycopy(tried, 0, best, 0, parts);
            }
        }

        private int readingsOf(int part, int weight, int base) {
            int numbers = card - 1;
            int taken = numbers - numbersWith(base - 1, weight, base);
            if (part > 0) {
                taken += numbers - numbersWith(0, weight, base);
            }
            return taken;
        }

        /** How many numbers below the card's last one have this digit. */
        private int numbersWith(int digit, int weight, int base) {
            int numbers = card - 1;
            int period = weight * base;
            int rest = numbers % period - digit * weight;
            return numbers / period * weight + Math.max(0, Math.min(weight, rest));
        }
    }
}
