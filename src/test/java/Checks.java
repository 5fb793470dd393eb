import java.util.ArrayList;
import java.util.List;

/** What the tests share: counting wrong answers, and texts for the tape. */
final class Checks {
    private int wrong = 0;

    void due(String what, long got, long want) {
        if (got != want) {
            wrong++;
            System.out.println(what + " answered " + got + ", due is " + want);
        }
    }

    void due(String what, boolean got, boolean want) {
        due(what, got ? 1 : 0, want ? 1 : 0);
    }

    /** The exception must be of that very class: a subclass would be one that the machine throws. */
    void dueThrow(String what, Class<?> want, Runnable call) {
        Class<?> got = null;
        try {
            call.run();
        } catch (RuntimeException e) {
            got = e.getClass();
        }
        if (got != want) {
            wrong++;
            System.out.println(what + " threw " + got + ", due is " + want);
        }
    }

    void end() {
        if (wrong > 0) {
            System.out.println(wrong + " answers are not as due");
            System.exit(1);
        }
    }

    /** The text in rows of five ints, the last one filled up with blanks. */
    static List<int[]> rows(String text) {
        List<int[]> rows = new ArrayList<>();
        for (int from = 0; from < text.length(); from += 20) {
            int[] row = new int[5];
            for (int k = 0; k < 20; k++) {
                int sign = from + k < text.length() ? text.charAt(from + k) : ' ';
                row[k / 4] = row[k / 4] << 8 | sign & 255;
            }
            rows.add(row);
        }
        return rows;
    }

    static void feed(PumpCrossing x, String text) {
        for (int[] r : rows(text)) {
            x.feed(r[0], r[1], r[2], r[3], r[4]);
        }
    }

    static int rules(PumpCrossing x, int station, String text) {
        feed(x, text);
        return x.rules(station, text.length());
    }

    static int law(PumpCrossing x, String text) {
        feed(x, text);
        return x.law(text.length());
    }

    static void tray(PumpCrossing x, int tray, int sort, long... numbers) {
        x.tray(tray, sort, numbers.length);
        for (int k = 0; k < numbers.length; k++) {
            x.write(tray, k, numbers[k]);
        }
    }
}
