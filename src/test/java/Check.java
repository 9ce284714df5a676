import java.util.NoSuchElementException;

/** What the tests share: texts put on the tape, answers compared, exceptions named. */
final class Check {
    /** A call of the face whose answer is told as a text: a number, true or false, or an exception's short name. */
    interface Call {
        Object answer();
    }

    private static int checked = 0;
    private static int wrong = 0;

    private Check() {
    }

    static String answerOf(Call call) {
        try {
            return String.valueOf(call.answer());
        } catch (NoSuchElementException e) {
            return nameIfExact(e, NoSuchElementException.class);
        } catch (IllegalArgumentException e) {
            return nameIfExact(e, IllegalArgumentException.class);
        } catch (IllegalStateException e) {
            return nameIfExact(e, IllegalStateException.class);
        } catch (RuntimeException | Error e) {
            return "MACHINE " + e;
        }
    }

    private static String nameIfExact(RuntimeException e, Class<?> due) {
        return e.getClass() == due ? due.getSimpleName() : "MACHINE " + e;
    }

    static void due(String what, Object want, Call call) {
        due(what, String.valueOf(want), answerOf(call));
    }

    static void due(String what, String want, String got) {
        checked++;
        if (!want.equals(got)) {
            wrong++;
            if (wrong <= 40) {
                System.out.println(what + " answered " + got + ", due is " + want);
            }
        }
    }

    static int wrongSoFar() {
        return wrong;
    }

    static void end(String name) {
        System.out.println(name + ": " + checked + " answers, " + wrong + " wrong");
        if (wrong > 0 || checked == 0) {
            System.exit(1);
        }
    }

    /** Twenty bytes from a place on, as five numbers; behind the end come zeros. */
    static int[] numbersAt(byte[] bytes, int from) {
        int[] numbers = new int[5];
        for (int i = 0; i < 20; i++) {
            int b = from + i < bytes.length ? bytes[from + i] & 255 : 0;
            numbers[i / 4] = numbers[i / 4] << 8 | b;
        }
        return numbers;
    }

    static byte[] bytesOf(String text) {
        byte[] bytes = new byte[text.length()];
        for (int i = 0; i < bytes.length; i++) {
            bytes[i] = (byte) text.charAt(i);
        }
        return bytes;
    }

    static byte[] bytesOfWords(int... words) {
        byte[] bytes = new byte[words.length * 2];
        for (int i = 0; i < words.length; i++) {
            bytes[2 * i] = (byte) (words[i] >> 8);
            bytes[2 * i + 1] = (byte) words[i];
        }
        return bytes;
    }

    static void put(AlignedRuns x, byte[] bytes) {
        for (int from = 0; from < bytes.length; from += 20) {
            int[] n = numbersAt(bytes, from);
            x.feed(n[0], n[1], n[2], n[3], n[4]);
        }
    }
}
