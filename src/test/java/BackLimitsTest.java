/** Promises 18 to 22 where they end: a test for each sentence of "Edges" that names a limit. */
public final class BackLimitsTest {
    private static final int MOST = Integer.MAX_VALUE;
    private static final int LEAST = Integer.MIN_VALUE;

    public static void main(String[] args) {
        edges();
        outlines();
        groups();
        Due.end();
    }

    private static void edges() {
        noEdgeHasABackStitchAtFirst();
        edgesOfTheLeastChart();
        edgesOfTheGreatestChart();
        edgesThatLeaveTheChartAreUnknown();
        edgesBehindALineAreNotThoseOfTheNext();
        coordinatesThatWrapAroundAreUnknown();
        uprightAndFlatEdgesOfAPointAreTwo();
        settingWhatIsSetIsNoChange();
        clearBackOfNothingAndOfAll();
    }

    private static void outlines() {
        outlineRefusesColors();
        outlineWithoutStitches();
        outlineOfASingleStitch();
        outlineAtTheEndsOfTheChart();
        outlineOfTheWholeChart();
        outlineToOtherColorsAndEmptyCells();
        outlineDoesNotWrapAround();
        outlineCountsOnlyWhatIsNew();
        backStitchesStayWhenCellsChange();
    }

    private static void groups() {
        backsWithoutBackStitches();
        backsRefusesOtherProperties();
        oneBackStitchIsAGroup();
        aClosedLineHasOneStrand();
        twoOddPointsMakeOneStrand();
        fourOddPointsMakeTwoStrands();
        strandsAreCountedByGroup();
        nearPointsWithoutAnEdgeAreNotConnected();
        groupsGoOnInEachDirection();
        groupsAtTheEndsOfTheGreatestChart();
        groupsDoNotWrapAround();
        theGreatestGroup();
        theMostGroups();
        narrowCharts();
    }

    private static void dueBacks(String when, StitchChart chart, int... due) {
        for (int what = 0; what < due.length; what++) {
            Due.be(when + ": backs(" + what + ")", chart.backs(what), due[what]);
        }
    }

    private static void noEdgeHasABackStitchAtFirst() {
        StitchChart chart = new StitchChart();
        for (int y = 0; y <= 8; y++) {
            for (int x = 0; x <= 10; x++) {
                Due.be("upright " + x + ", " + y, chart.back(x, y, true), y == 8 ? StitchChart.UNKNOWN : 0);
                Due.be("flat " + x + ", " + y, chart.back(x, y, false), x == 10 ? StitchChart.UNKNOWN : 0);
            }
        }
        Due.be("clearBack()", chart.clearBack(), 0);
    }

    private static void edgesOfTheLeastChart() {
        StitchChart chart = new StitchChart();
        chart.reset(1, 1);
        Due.be("left", chart.setBack(0, 0, true, true), 1);
        Due.be("right", chart.setBack(1, 0, true, true), 1);
        Due.be("upper", chart.setBack(0, 0, false, true), 1);
        Due.be("lower", chart.setBack(0, 1, false, true), 1);
        Due.be("down from the lower left point", chart.setBack(0, 1, true, true), StitchChart.UNKNOWN);
        Due.be("down from the lower right point", chart.setBack(1, 1, true, true), StitchChart.UNKNOWN);
        Due.be("right from the upper right point", chart.setBack(1, 0, false, true), StitchChart.UNKNOWN);
        Due.be("right from the lower right point", chart.setBack(1, 1, false, true), StitchChart.UNKNOWN);
        dueBacks("all four", chart, 4, 1, 1, 140, 0);
    }

    private static void edgesOfTheGreatestChart() {
        StitchChart chart = new StitchChart();
        chart.reset(24, 24);
        int[][] upright = {{0, 0}, {24, 0}, {0, 23}, {24, 23}};
        int[][] flat = {{0, 0}, {23, 0}, {0, 24}, {23, 24}};
        for (int index = 0; index < 4; index++) {
            Due.be("upright " + index, chart.setBack(upright[index][0], upright[index][1], true, true), 1);
            Due.be("flat " + index, chart.setBack(flat[index][0], flat[index][1], false, true), 1);
            Due.be("upright then", chart.back(upright[index][0], upright[index][1], true), 1);
            Due.be("flat then", chart.back(flat[index][0], flat[index][1], false), 1);
        }
        dueBacks("four corners", chart, 8, 4, 4, 160 + 240, 8);
        for (int[] at : new int[][] {{25, 0}, {0, 24}, {24, 24}, {25, 23}}) {
            Due.be("upright " + at[0] + ", " + at[1], chart.back(at[0], at[1], true), StitchChart.UNKNOWN);
        }
        for (int[] at : new int[][] {{24, 0}, {0, 25}, {24, 24}, {23, 25}}) {
            Due.be("flat " + at[0] + ", " + at[1], chart.back(at[0], at[1], false), StitchChart.UNKNOWN);
        }
    }

    private static void edgesThatLeaveTheChartAreUnknown() {
        for (int y = -2; y <= 4; y++) {
            for (int x = -2; x <= 5; x++) {
                StitchChart chart = new StitchChart();
                chart.reset(3, 2);
                dueEdge(chart, x, y, true, x >= 0 && x <= 3 && y >= 0 && y <= 1);
                dueEdge(chart, x, y, false, x >= 0 && x <= 2 && y >= 0 && y <= 2);
            }
        }
    }

    private static void dueEdge(StitchChart chart, int x, int y, boolean upright, boolean exists) {
        String at = "(" + x + ", " + y + ", " + upright + ")";
        Due.be("removing " + at, chart.setBack(x, y, upright, false), exists ? 0 : StitchChart.UNKNOWN);
        Due.be("setting " + at, chart.setBack(x, y, upright, true), exists ? 1 : StitchChart.UNKNOWN);
        Due.be("asking " + at, chart.back(x, y, upright), exists ? 1 : StitchChart.UNKNOWN);
        Due.be("clearing " + at, chart.clearBack(), exists ? 1 : 0);
    }

    private static void edgesBehindALineAreNotThoseOfTheNext() {
        for (int side : new int[] {10, 24}) {
            StitchChart chart = new StitchChart();
            chart.reset(side, side);
            chart.setBack(0, 1, true, true);
            chart.setBack(0, 1, false, true);
            Due.be("upright behind the first line", chart.back(side + 1, 0, true), StitchChart.UNKNOWN);
            Due.be("flat behind the first line", chart.back(side, 0, false), StitchChart.UNKNOWN);
            Due.be("setting flat behind it", chart.setBack(side, 0, false, true), StitchChart.UNKNOWN);
            Due.be("before the second line", chart.setBack(-1, 1, false, true), StitchChart.UNKNOWN);
            Due.be("before the third line", chart.back(-side - 1, 2, true), StitchChart.UNKNOWN);
            Due.be("back stitches", chart.backs(0), 2);
        }
    }

    private static void coordinatesThatWrapAroundAreUnknown() {
        StitchChart chart = new StitchChart();
        for (int value : new int[] {LEAST, MOST, 256, -256, 65536, -65536, 1 << 29, 1 << 30, 25 << 25}) {
            for (int[] at : new int[][] {{value, 0}, {0, value}, {value, value}, {3, value + 3}, {value + 3, 3}}) {
                String where = "(" + at[0] + ", " + at[1] + ")";
                Due.be("upright" + where, chart.back(at[0], at[1], true), StitchChart.UNKNOWN);
                Due.be("flat" + where, chart.back(at[0], at[1], false), StitchChart.UNKNOWN);
                Due.be("set upright" + where, chart.setBack(at[0], at[1], true, true), StitchChart.UNKNOWN);
                Due.be("set flat" + where, chart.setBack(at[0], at[1], false, true), StitchChart.UNKNOWN);
            }
        }
        Due.be("back stitches", chart.backs(0), 0);
    }

    private static void uprightAndFlatEdgesOfAPointAreTwo() {
        StitchChart chart = new StitchChart();
        chart.setBack(3, 3, true, true);
        Due.be("the flat one", chart.back(3, 3, false), 0);
        Due.be("removing the flat one", chart.setBack(3, 3, false, false), 0);
        Due.be("the upright one", chart.back(3, 3, true), 1);
        chart.setBack(3, 3, false, true);
        chart.setBack(3, 3, true, false);
        Due.be("the flat one then", chart.back(3, 3, false), 1);
        Due.be("the upright one then", chart.back(3, 3, true), 0);
    }

    private static void settingWhatIsSetIsNoChange() {
        for (boolean upright : new boolean[] {true, false}) {
            StitchChart chart = new StitchChart();
            Due.be("removing none", chart.setBack(0, 0, upright, false), 0);
            Due.be("setting", chart.setBack(0, 0, upright, true), 1);
            Due.be("setting again", chart.setBack(0, 0, upright, true), 0);
            Due.be("after setting again", chart.back(0, 0, upright), 1);
            Due.be("removing", chart.setBack(0, 0, upright, false), 1);
            Due.be("removing again", chart.setBack(0, 0, upright, false), 0);
            Due.be("after removing again", chart.back(0, 0, upright), 0);
        }
    }

    private static void clearBackOfNothingAndOfAll() {
        StitchChart chart = checkered();
        Due.be("clearing nothing", chart.clearBack(), 0);
        chart.outline(1);
        Due.be("clearing all", chart.clearBack(), 1152);
        dueBacks("after clearing", chart, 0, 0, 0, 0, 0);
        Due.be("clearing nothing again", chart.clearBack(), 0);
        Due.be("the last upright edge", chart.back(24, 23, true), 0);
        Due.be("the last flat edge", chart.back(23, 24, false), 0);
        Due.be("the stitches stay", chart.count(1, 0), 288);
    }

    private static StitchChart checkered() {
        StitchChart chart = new StitchChart();
        chart.reset(24, 24);
        for (int y = 0; y < 24; y++) {
            for (int x = y % 2; x < 24; x += 2) {
                chart.setCell(x, y, 1);
            }
        }
        return chart;
    }

    private static void outlineRefusesColors() {
        StitchChart chart = Due.chart("f");
        for (int color : Due.outside(1, 6)) {
            Due.be("outline(" + color + ")", chart.outline(color), StitchChart.BAD_VALUE);
        }
        Due.be("back stitches", chart.backs(0), 0);
        Due.be("outline(6)", chart.outline(6), 4);
    }

    private static void outlineWithoutStitches() {
        StitchChart chart = Due.chart("f");
        for (int color = 1; color <= 5; color++) {
            Due.be("outline(" + color + ")", chart.outline(color), 0);
        }
        Due.be("back stitches", chart.backs(0), 0);
    }

    private static void outlineOfASingleStitch() {
        for (int color = 1; color <= 6; color++) {
            StitchChart chart = new StitchChart();
            chart.reset(1, 1);
            chart.setCell(0, 0, color);
            Due.be("outline(" + color + ")", chart.outline(color), 4);
            dueBacks("a single stitch of " + color, chart, 4, 1, 1, 140, 0);
        }
    }

    private static void outlineAtTheEndsOfTheChart() {
        int[][] corners = {{0, 0}, {23, 0}, {0, 23}, {23, 23}};
        for (int[] corner : corners) {
            StitchChart chart = new StitchChart();
            chart.reset(24, 24);
            chart.setCell(corner[0], corner[1], 3);
            String at = " of " + corner[0] + ", " + corner[1];
            Due.be("outline" + at, chart.outline(3), 4);
            Due.be("left" + at, chart.back(corner[0], corner[1], true), 1);
            Due.be("right" + at, chart.back(corner[0] + 1, corner[1], true), 1);
            Due.be("upper" + at, chart.back(corner[0], corner[1], false), 1);
            Due.be("lower" + at, chart.back(corner[0], corner[1] + 1, false), 1);
        }
    }

    private static void outlineOfTheWholeChart() {
        for (int[] sides : new int[][] {{24, 24}, {24, 1}, {1, 24}, {3, 7}, {7, 3}}) {
            StitchChart chart = new StitchChart();
            chart.reset(sides[0], sides[1]);
            chart.fill(0, 0, sides[0], sides[1], 2);
            int around = 2 * sides[0] + 2 * sides[1];
            Due.be("outline of " + sides[0] + " by " + sides[1], chart.outline(2), around);
            dueBacks("around " + sides[0] + " by " + sides[1], chart, around, 1, 1, 20 * around + 60, 0);
        }
    }

    private static void outlineToOtherColorsAndEmptyCells() {
        StitchChart chart = Due.chart("aab", "a..");
        Due.be("outline(1)", chart.outline(1), 8);
        Due.be("to another color", chart.back(2, 0, true), 1);
        Due.be("to an empty cell below", chart.back(1, 1, false), 1);
        Due.be("to an empty cell at the right", chart.back(1, 1, true), 1);
        Due.be("between cells of the color in a line", chart.back(1, 0, true), 0);
        Due.be("between cells of the color in a column", chart.back(0, 1, false), 0);
        Due.be("between another color and an empty cell", chart.back(2, 1, false), 0);
        Due.be("between empty cells", chart.back(2, 1, true), 0);
    }

    private static void outlineDoesNotWrapAround() {
        StitchChart chart = new StitchChart();
        chart.reset(24, 24);
        chart.fill(0, 0, 1, 24, 1);
        chart.fill(23, 0, 1, 24, 1);
        Due.be("both sides", chart.outline(1), 100);
        Due.be("the left end", chart.back(0, 12, true), 1);
        Due.be("the right end", chart.back(24, 12, true), 1);
        dueBacks("both sides", chart, 100, 2, 2, 2000 + 120, 0);
    }

    private static void outlineCountsOnlyWhatIsNew() {
        StitchChart chart = Due.chart("ab");
        Due.be("the first", chart.outline(1), 4);
        Due.be("the second, which shares an edge", chart.outline(2), 3);
        Due.be("the first again", chart.outline(1), 0);
        Due.be("back stitches", chart.backs(0), 7);
    }

    private static void backStitchesStayWhenCellsChange() {
        StitchChart chart = Due.chart("ab");
        chart.outline(1);
        chart.fill(0, 0, 2, 1, 0);
        chart.merge(1);
        Due.type(chart, "cc");
        chart.readChart();
        Due.be("back stitches", chart.backs(0), 4);
    }

    private static void backsWithoutBackStitches() {
        StitchChart chart = new StitchChart();
        chart.setThread(1000, 200);
        dueBacks("none", chart, 0, 0, 0, 0, 0);
        chart.setBack(0, 0, true, true);
        chart.setBack(0, 0, true, false);
        dueBacks("none any more", chart, 0, 0, 0, 0, 0);
    }

    private static void backsRefusesOtherProperties() {
        StitchChart chart = Due.chart("a");
        chart.outline(1);
        for (int what : Due.outside(0, 4)) {
            Due.be("backs(" + what + ")", chart.backs(what), StitchChart.BAD_VALUE);
        }
    }

    private static void oneBackStitchIsAGroup() {
        for (int tail : new int[] {0, 30, 200}) {
            StitchChart chart = new StitchChart();
            chart.setThread(60, tail);
            chart.setBack(10, 7, true, true);
            dueBacks("one with a tail of " + tail, chart, 1, 1, 1, 20 + 2 * tail, 2);
        }
    }

    private static void aClosedLineHasOneStrand() {
        StitchChart chart = Due.chart("aaa", "a.a", "aaa");
        chart.outline(1);
        dueBacks("two closed lines", chart, 16, 2, 2, 320 + 120, 0);
        StitchChart eight = Due.chart("a.", ".a");
        eight.outline(1);
        dueBacks("two that share a point", eight, 8, 1, 1, 160 + 60, 0);
    }

    private static void twoOddPointsMakeOneStrand() {
        StitchChart chart = new StitchChart();
        for (int x = 0; x < 10; x++) {
            chart.setBack(x, 0, false, true);
            dueBacks("a line of " + (x + 1), chart, x + 1, 1, 1, 20 * (x + 1) + 60, 2);
        }
    }

    private static void fourOddPointsMakeTwoStrands() {
        StitchChart cross = new StitchChart();
        cross.setBack(3, 3, true, true);
        cross.setBack(3, 4, true, true);
        cross.setBack(2, 4, false, true);
        dueBacks("a point of three", cross, 3, 1, 2, 60 + 120, 4);
        cross.setBack(3, 4, false, true);
        dueBacks("a point of four", cross, 4, 1, 2, 80 + 120, 4);
        StitchChart ladder = new StitchChart();
        for (int y = 0; y < 3; y++) {
            ladder.setBack(4, y, true, true);
            ladder.setBack(4, y, false, true);
        }
        // points 4, 0 (2), 4, 1 (3), 4, 2 (3), 4, 3 (1) and the ends of three flat ones
        dueBacks("six odd points", ladder, 6, 1, 3, 120 + 180, 6);
    }

    private static void strandsAreCountedByGroup() {
        StitchChart chart = new StitchChart();
        chart.setCell(0, 0, 1);
        chart.outline(1);
        chart.setBack(0, 4, false, true);
        chart.setBack(5, 4, false, true);
        // a closed line does not lend its strand to the two odd points of another group
        dueBacks("a closed line and two others", chart, 6, 3, 3, 120 + 180, 4);
    }

    private static void nearPointsWithoutAnEdgeAreNotConnected() {
        StitchChart side = new StitchChart();
        side.setBack(0, 0, true, true);
        side.setBack(1, 0, true, true);
        side.setBack(2, 0, true, true);
        dueBacks("upright ones side by side", side, 3, 3, 3, 60 + 180, 6);
        StitchChart below = new StitchChart();
        below.setBack(0, 0, false, true);
        below.setBack(0, 1, false, true);
        below.setBack(0, 2, false, true);
        dueBacks("flat ones below each other", below, 3, 3, 3, 60 + 180, 6);
        StitchChart above = new StitchChart();
        above.setBack(0, 0, true, true);
        above.setBack(0, 1, true, true);
        above.setBack(0, 2, false, true);
        above.setBack(1, 2, false, true);
        above.setBack(1, 1, false, true);
        dueBacks("one above the end of another", above, 5, 2, 2, 100 + 120, 4);
        StitchChart left = new StitchChart();
        left.setBack(2, 0, true, true);
        left.setBack(0, 1, false, true);
        dueBacks("one left of the end of another", left, 2, 2, 2, 40 + 120, 4);
    }

    /** From its first point each group goes right, left, down and up by single edges. */
    private static void groupsGoOnInEachDirection() {
        StitchChart cup = new StitchChart();
        cup.setBack(2, 2, true, true);
        cup.setBack(2, 3, false, true);
        cup.setBack(3, 2, true, true);
        dueBacks("down, right and up", cup, 3, 1, 1, 60 + 60, 2);
        StitchChart hook = new StitchChart();
        hook.setBack(3, 2, true, true);
        hook.setBack(2, 3, false, true);
        hook.setBack(2, 2, true, true);
        hook.setBack(1, 2, false, true);
        dueBacks("down, left, up and left", hook, 4, 1, 1, 80 + 60, 2);
        StitchChart stairs = new StitchChart();
        for (int step = 0; step < 8; step++) {
            stairs.setBack(step, step, false, true);
            stairs.setBack(step + 1, step, true, true);
        }
        dueBacks("stairs down", stairs, 16, 1, 1, 320 + 60, 2);
        StitchChart up = new StitchChart();
        for (int step = 0; step < 8; step++) {
            up.setBack(step, 8 - step, false, true);
            up.setBack(step + 1, 7 - step, true, true);
        }
        dueBacks("stairs up", up, 16, 1, 1, 320 + 60, 2);
    }

    private static void groupsAtTheEndsOfTheGreatestChart() {
        StitchChart chart = new StitchChart();
        chart.reset(24, 24);
        for (int at = 0; at < 24; at++) {
            chart.setBack(24, at, true, true);
            chart.setBack(at, 24, false, true);
        }
        dueBacks("the right and the lower end", chart, 48, 1, 1, 960 + 60, 2);
        for (int at = 0; at < 24; at++) {
            chart.setBack(0, at, true, true);
            chart.setBack(at, 0, false, true);
        }
        dueBacks("all ends", chart, 96, 1, 1, 1920 + 60, 0);
        chart.setBack(24, 12, true, false);
        chart.setBack(12, 24, false, false);
        dueBacks("all ends with two gaps", chart, 94, 2, 2, 1880 + 120, 4);
    }

    private static void groupsDoNotWrapAround() {
        for (int side : new int[] {10, 24}) {
            StitchChart chart = new StitchChart();
            chart.reset(side, side);
            chart.setBack(side - 1, 0, false, true);
            chart.setBack(0, 1, false, true);
            chart.setBack(side, side - 1, true, true);
            chart.setBack(0, 2, true, true);
            dueBacks("ends of lines", chart, 4, 4, 4, 80 + 240, 8);
        }
    }

    private static void theGreatestGroup() {
        StitchChart chart = checkered();
        Due.be("outline of a checkered chart", chart.outline(1), 1152);
        dueBacks("a checkered chart", chart, 1152, 1, 1, 23040 + 60, 0);
        chart.setBack(23, 0, false, true);
        chart.setBack(0, 23, true, true);
        dueBacks("all 625 points", chart, 1154, 1, 2, 23080 + 120, 4);
        chart.setBack(24, 23, true, false);
        chart.setBack(0, 0, true, false);
        dueBacks("with two gaps", chart, 1152, 1, 4, 23040 + 240, 8);
    }

    private static void theMostGroups() {
        StitchChart chart = new StitchChart();
        chart.reset(24, 24);
        for (int y = 0; y <= 24; y++) {
            for (int x = 0; x < 24; x += 2) {
                chart.setBack(x, y, false, true);
            }
        }
        dueBacks("single edges", chart, 300, 300, 300, 6000 + 300 * 60, 600);
        chart.setThread(0, 200);
        Due.be("their thread with the greatest tail", chart.backs(3), 6000 + 300 * 400);
    }

    private static void narrowCharts() {
        StitchChart wide = new StitchChart();
        wide.reset(24, 1);
        wide.setBack(24, 0, true, true);
        wide.setBack(23, 1, false, true);
        wide.setBack(0, 0, true, true);
        dueBacks("24 by 1", wide, 3, 2, 2, 60 + 120, 4);
        StitchChart high = new StitchChart();
        high.reset(1, 24);
        high.setBack(0, 24, false, true);
        high.setBack(1, 23, true, true);
        high.setBack(0, 0, false, true);
        dueBacks("1 by 24", high, 3, 2, 2, 60 + 120, 4);
    }
}
