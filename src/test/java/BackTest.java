/** Promises 18 to 22: back stitches. */
public final class BackTest {
    private static final int LEAST = Integer.MIN_VALUE;
    private static final int MOST = Integer.MAX_VALUE;

    public static void main(String[] args) {
        edgesOfTheChart();
        setBackTellsChanges();
        outlinesLieAroundAColor();
        outlineCountsNewEdgesOnly();
        clearBackCounts();
        groupsAndStrands();
        backsRefusesWrongValues();
        Due.end();
    }

    private static void edgesOfTheChart() {
        StitchChart chart = new StitchChart();
        chart.reset(3, 2);
        int exist = 0;
        for (int y = -1; y <= 4; y++) {
            for (int x = -1; x <= 4; x++) {
                boolean flat = x >= 0 && x < 3 && y >= 0 && y <= 2;
                boolean upright = x >= 0 && x <= 3 && y >= 0 && y < 2;
                String at = "(" + x + ", " + y + ")";
                Due.be("flat back" + at, chart.back(x, y, false), flat ? 0 : StitchChart.UNKNOWN);
                Due.be("upright back" + at, chart.back(x, y, true), upright ? 0 : StitchChart.UNKNOWN);
                Due.be("flat setBack" + at, chart.setBack(x, y, false, true), flat ? 1 : StitchChart.UNKNOWN);
                Due.be("upright setBack" + at, chart.setBack(x, y, true, true), upright ? 1 : StitchChart.UNKNOWN);
                exist += (flat ? 1 : 0) + (upright ? 1 : 0);
            }
        }
        Due.be("all edges", chart.backs(0), exist);
        for (int far : new int[] {LEAST, MOST}) {
            Due.be("far x", chart.back(far, 0, true), StitchChart.UNKNOWN);
            Due.be("far y", chart.setBack(0, far, false, true), StitchChart.UNKNOWN);
        }
    }

    private static void setBackTellsChanges() {
        StitchChart chart = new StitchChart();
        Due.be("off when off", chart.setBack(2, 3, true, false), 0);
        Due.be("on when off", chart.setBack(2, 3, true, true), 1);
        Due.be("on when on", chart.setBack(2, 3, true, true), 0);
        Due.be("the upright one", chart.back(2, 3, true), 1);
        Due.be("the flat one", chart.back(2, 3, false), 0);
        Due.be("off when on", chart.setBack(2, 3, true, false), 1);
        Due.be("none is left", chart.backs(0), 0);
        Due.be("flat at the lower end", chart.setBack(9, 8, false, true), 1);
        Due.be("upright at the right end", chart.setBack(10, 7, true, true), 1);
        Due.be("they share a point", chart.backs(1), 1);
    }

    private static void outlinesLieAroundAColor() {
        StitchChart chart = Due.chart("ab.", "aa.");
        Due.be("outline(1)", chart.outline(1), 8);
        Due.be("at the left end of the chart", chart.back(0, 0, true), 1);
        Due.be("at the upper end of the chart", chart.back(0, 0, false), 1);
        Due.be("to another color", chart.back(1, 0, true), 1);
        Due.be("below another color", chart.back(1, 1, false), 1);
        Due.be("to an empty cell", chart.back(2, 1, true), 1);
        Due.be("at the lower end of the chart", chart.back(1, 2, false), 1);
        Due.be("within the color", chart.back(0, 1, false), 0);
        Due.be("within the line", chart.back(1, 1, true), 0);
        Due.be("between others", chart.back(2, 0, true), 0);
        StitchChart whole = new StitchChart();
        whole.reset(24, 24);
        whole.fill(0, 0, 24, 24, 5);
        Due.be("outline of the whole chart", whole.outline(5), 96);
        Due.be("its right lower end", whole.back(24, 23, true), 1);
        Due.be("its lower right end", whole.back(23, 24, false), 1);
    }

    private static void outlineCountsNewEdgesOnly() {
        StitchChart chart = Due.chart("ab.", "aa.");
        chart.setBack(0, 0, true, true);
        chart.setBack(2, 0, true, true);
        Due.be("outline(1)", chart.outline(1), 7);
        Due.be("outline(1) again", chart.outline(1), 0);
        Due.be("outline(2)", chart.outline(2), 1);
        Due.be("outline(3) without stitches", chart.outline(3), 0);
        for (int color : new int[] {0, -1, 7, LEAST, MOST}) {
            Due.be("outline(" + color + ")", chart.outline(color), StitchChart.BAD_VALUE);
        }
        Due.be("back stitches", chart.backs(0), 10);
        chart.fill(0, 0, 3, 2, 0);
        Due.be("they stay when cells change", chart.backs(0), 10);
    }

    private static void clearBackCounts() {
        StitchChart chart = Due.chart("a");
        chart.outline(1);
        Due.be("clearBack()", chart.clearBack(), 4);
        Due.be("clearBack() again", chart.clearBack(), 0);
        Due.be("an edge then", chart.back(0, 0, true), 0);
        Due.be("the chart stays", chart.cell(0, 0), 1);
    }

    private static void dueBacks(String when, StitchChart chart, int... due) {
        for (int what = 0; what < due.length; what++) {
            Due.be(when + ": backs(" + what + ")", chart.backs(what), due[what]);
        }
    }

    private static void groupsAndStrands() {
        StitchChart chart = new StitchChart();
        chart.setBack(0, 0, false, true);
        dueBacks("a line", chart, 1, 1, 1, 80, 2);
        chart.setBack(1, 0, false, true);
        dueBacks("a longer line", chart, 2, 1, 1, 100, 2);
        chart.setBack(1, 0, true, true);
        dueBacks("a T", chart, 3, 1, 2, 180, 4);
        chart.setBack(1, 1, true, true);
        chart.setBack(1, 1, false, true);
        chart.setBack(0, 1, false, true);
        dueBacks("a T on a cross", chart, 6, 1, 3, 300, 6);
        chart.setBack(4, 4, false, true);
        chart.setBack(4, 5, false, true);
        dueBacks("two more lines", chart, 8, 3, 5, 460, 10);
        chart.setBack(4, 4, true, true);
        chart.setBack(5, 4, true, true);
        dueBacks("a square", chart, 10, 2, 4, 440, 6);
        chart.setThread(60, 0);
        dueBacks("without a tail", chart, 10, 2, 4, 200, 6);
        dueUpwards();
        dueAtTheEnds();
        StitchChart corner = Due.chart("a.", ".a");
        corner.outline(1);
        dueBacks("squares that share a point", corner, 8, 1, 1, 220, 0);
    }

    /** Seen from its first point, the group goes down and comes up again. */
    private static void dueUpwards() {
        StitchChart chart = new StitchChart();
        chart.setBack(2, 1, true, true);
        chart.setBack(2, 2, true, true);
        chart.setBack(2, 3, false, true);
        chart.setBack(3, 2, true, true);
        chart.setBack(3, 1, true, true);
        chart.setBack(3, 1, false, true);
        chart.setBack(1, 3, false, true);
        dueBacks("down and up", chart, 7, 1, 2, 260, 4);
    }

    private static void dueAtTheEnds() {
        StitchChart chart = new StitchChart();
        chart.setBack(10, 6, true, true);
        chart.setBack(10, 7, true, true);
        chart.setBack(8, 8, false, true);
        chart.setBack(0, 7, true, true);
        dueBacks("at the ends of the chart", chart, 4, 3, 3, 260, 6);
    }

    private static void backsRefusesWrongValues() {
        StitchChart chart = new StitchChart();
        for (int what : new int[] {-1, 5, LEAST, MOST}) {
            Due.be("backs(" + what + ")", chart.backs(what), StitchChart.BAD_VALUE);
        }
    }
}
