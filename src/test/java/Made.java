/** What several tests make: texts and words put on the tape and read, objects in a few states. */
final class Made {
    private Made() {
    }

    static int column(AlignedRuns x, String text) {
        Check.put(x, Check.bytesOf(text));
        return x.column(text.length());
    }

    static int ask(AlignedRuns x, int result, String text) {
        Check.put(x, Check.bytesOf(text));
        return x.ask(result, text.length());
    }

    static int load(AlignedRuns x, int result, int... words) {
        Check.put(x, Check.bytesOfWords(words));
        return x.load(result, words.length * 2);
    }

    /** An object with columns of these texts. */
    static AlignedRuns with(String... texts) {
        AlignedRuns x = new AlignedRuns();
        for (String text : texts) {
            column(x, text);
        }
        return x;
    }

    /** So many rows more, whose values are all 0. */
    static AlignedRuns grown(AlignedRuns x, int rows) {
        for (int left = rows; left > 0; left -= 400) {
            x.many(Math.min(left, 400), 0, 0, 0, 0);
        }
        return x;
    }

    /** So many rows without columns. */
    static AlignedRuns rows(int rows) {
        return grown(new AlignedRuns(), rows);
    }

    /** One column "range 10x10 of 100" and one "equal 4 of 4", with five rows. */
    static AlignedRuns small() {
        AlignedRuns x = with("range 10x10 of 100", "equal 4 of 4");
        x.add(37, 1, 0, 0);
        x.add(5, 0, 0, 0);
        x.add(99, 3, 0, 0);
        x.add(37, 2, 0, 0);
        x.add(0, 1, 0, 0);
        return x;
    }

    /** 65 rows of one column "range 2 of 2": 45 of 0, 15 of 1, 5 of 0. */
    static AlignedRuns runs() {
        AlignedRuns x = with("range 2 of 2");
        x.many(45, 0, 0, 0, 0);
        x.many(15, 1, 0, 0, 0);
        x.many(5, 0, 0, 0, 0);
        return x;
    }

    /** Twelve rows of the values 0 to 11 in order, in each of the columns that there are. */
    static AlignedRuns twelve(String... texts) {
        AlignedRuns x = with(texts);
        for (int v = 0; v < 12; v++) {
            x.add(v, v, v, v);
        }
        return x;
    }
}
