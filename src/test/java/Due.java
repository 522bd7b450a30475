import java.util.Arrays;

/** Compares answers with those that are due, and ends a test. */
final class Due {
    private static int wrong = 0;

    private Due() {
    }

    static void be(String call, long got, long want) {
        if (got != want) {
            wrong++;
            System.out.println(call + " answered " + got + ", due is " + want);
        }
    }

    static void end() {
        System.out.println(wrong == 0 ? "all answers are as due" : wrong + " answers are not as due");
        if (wrong != 0) {
            System.exit(1);
        }
    }

    /** Values out of every range that a byte, a short or 31 bits would take for the given one. */
    static int[] wrapped(int value) {
        return new int[] {value + 256, value - 256, value + 65536, value - 65536, value + Integer.MIN_VALUE};
    }

    /** The least and greatest numbers, one too small, one too large, and what wraps around into the range. */
    static int[] outside(int least, int most) {
        int[] plain = {least - 1, most + 1, Integer.MIN_VALUE, Integer.MAX_VALUE};
        int[] around = wrapped(most);
        int[] all = Arrays.copyOf(plain, plain.length + around.length);
        System.arraycopy(around, 0, all, plain.length, around.length);
        return all;
    }

    /** Types a text; its characters all find room. */
    static void type(StitchChart chart, String text) {
        for (int index = 0; index < text.length(); index++) {
            chart.type(text.charAt(index));
        }
    }

    /** A chart whose lines are the given ones, "." for empty and a to f for the colors. */
    static StitchChart chart(String... lines) {
        StitchChart chart = new StitchChart();
        chart.reset(lines[0].length(), lines.length);
        for (int y = 0; y < lines.length; y++) {
            for (int x = 0; x < lines[y].length(); x++) {
                char sign = lines[y].charAt(x);
                chart.setCell(x, y, sign == '.' ? 0 : sign - 'a' + 1);
            }
        }
        return chart;
    }

    static void cells(String when, StitchChart chart, String... lines) {
        for (int y = 0; y < lines.length; y++) {
            for (int x = 0; x < lines[y].length(); x++) {
                char sign = lines[y].charAt(x);
                be(when + ": cell(" + x + ", " + y + ")", chart.cell(x, y), sign == '.' ? 0 : sign - 'a' + 1);
            }
        }
    }

    static void order(String when, StitchChart chart, int color, int... runs) {
        for (int place = 0; place < runs.length; place++) {
            be(when + ": runAt(" + color + ", " + place + ")", chart.runAt(color, place), runs[place]);
            be(when + ": place of run " + runs[place], chart.run(color, runs[place], 3), place);
        }
        be(when + ": runAt behind the last", chart.runAt(color, runs.length), StitchChart.NONE);
    }
}
