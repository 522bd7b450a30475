/**
 * Promises 1, 2, 6, 7, 8, 10 and 11 where they end: a test for each sentence of "Chart" and "Lone stitches" that
 * names a limit.
 */
public final class ChartLimitsTest {
    private static final int MOST = Integer.MAX_VALUE;

    public static void main(String[] args) {
        sidesOfTheChart();
        cells();
        loneStitches();
        Due.end();
    }

    private static void sidesOfTheChart() {
        the512thCallStillAnswers();
        aChartIsAtFirst10Wide8HighAndEmpty();
        theLeastChartHasOneCell();
        theGreatestChartHas576Cells();
        sidesOutOfRangeAreRefused();
        resetEmptiesTheLastCellToo();
        resetForgetsWhatASmallerChartHides();
        resetForgetsBackStitchesAtTheEnds();
        resetForgetsTheOrderOfEachColor();
        resetKeepsReachTailPagesAndText();
    }

    private static void cells() {
        cellsEndAtTheSides();
        cellsBehindALineAreNotThoseOfTheNext();
        coordinatesThatWrapAroundAreUnknown();
        colorsAre0To6();
        anUnknownCellComesBeforeAWrongColor();
        fillTakesOneCellAndTheWholeChart();
        fillRefusesSidesBelow1();
        fillRefusesToLeaveTheChart();
        fillRefusesColorsOutOfRange();
        fillChecksTheCellFirst();
        fillCountsOnlyChanges();
    }

    private static void loneStitches() {
        aSingleCellIsLone();
        anEmptyCellIsNotLone();
        neighborsEndAtTheSides();
        neighborsDoNotWrapAround();
        colorsOfEachNumberAreLone();
        mergeTakes1To20Rounds();
        mergeRefusesOtherRounds();
        mergeMakesNoMoreRoundsThanAsked();
        mergeEndsWhenARoundChangesNothing();
        mergingReachesTheLastCell();
        narrowChartsHaveLoneStitches();
        mergingNeedsOneNeighbor();
        mergingDoesNotCountEmptyOnes();
        mergingTakesTheLowestOfSeveral();
        mergingTakesTheMostOfEight();
        mergingOfNothing();
    }

    private static void the512thCallStillAnswers() {
        StitchChart chart = new StitchChart();
        for (int call = 1; call <= 511; call++) {
            Due.be("call " + call, chart.setBack(0, 0, true, call % 2 == 1), 1);
        }
        Due.be("call 512", chart.clearBack(), 1);
    }

    private static void aChartIsAtFirst10Wide8HighAndEmpty() {
        StitchChart chart = new StitchChart();
        Due.be("last cell at first", chart.cell(9, 7), 0);
        Due.be("right of the first line", chart.cell(10, 0), StitchChart.UNKNOWN);
        Due.be("below the first column", chart.cell(0, 8), StitchChart.UNKNOWN);
        Due.be("emptying an empty chart", chart.fill(0, 0, 10, 8, 0), 0);
        Due.be("filling it", chart.fill(0, 0, 10, 8, 1), 80);
    }

    private static void theLeastChartHasOneCell() {
        StitchChart chart = new StitchChart();
        Due.be("reset(1, 1)", chart.reset(1, 1), 1);
        Due.be("its cell", chart.cell(0, 0), 0);
        Due.be("right of it", chart.cell(1, 0), StitchChart.UNKNOWN);
        Due.be("below it", chart.cell(0, 1), StitchChart.UNKNOWN);
        Due.be("its fill", chart.fill(0, 0, 1, 1, 6), 1);
        Due.be("reset(1, 24)", chart.reset(1, 24), 24);
        Due.be("its last cell", chart.cell(0, 23), 0);
        Due.be("right of it", chart.cell(1, 23), StitchChart.UNKNOWN);
        Due.be("reset(24, 1)", chart.reset(24, 1), 24);
        Due.be("its last cell", chart.cell(23, 0), 0);
        Due.be("below it", chart.cell(23, 1), StitchChart.UNKNOWN);
    }

    private static void theGreatestChartHas576Cells() {
        StitchChart chart = new StitchChart();
        Due.be("reset(24, 24)", chart.reset(24, 24), 576);
        Due.be("its last cell", chart.setCell(23, 23, 6), 0);
        Due.be("its last cell then", chart.cell(23, 23), 6);
        Due.be("right of it", chart.cell(24, 23), StitchChart.UNKNOWN);
        Due.be("below it", chart.cell(23, 24), StitchChart.UNKNOWN);
        Due.be("filling it", chart.fill(0, 0, 24, 24, 6), 575);
    }

    private static void sidesOutOfRangeAreRefused() {
        StitchChart chart = Due.chart("abc", "def");
        for (int side : Due.outside(1, 24)) {
            Due.be("reset(" + side + ", 1)", chart.reset(side, 1), StitchChart.BAD_VALUE);
            Due.be("reset(24, " + side + ")", chart.reset(24, side), StitchChart.BAD_VALUE);
            Due.be("reset(" + side + ", " + side + ")", chart.reset(side, side), StitchChart.BAD_VALUE);
        }
        Due.be("a product that wraps around", chart.reset(1 << 16, 1 << 16), StitchChart.BAD_VALUE);
        Due.cells("after refused resets", chart, "abc", "def");
        Due.be("still 3 wide", chart.cell(3, 0), StitchChart.UNKNOWN);
        Due.be("still 2 high", chart.cell(0, 2), StitchChart.UNKNOWN);
    }

    private static void resetEmptiesTheLastCellToo() {
        StitchChart chart = new StitchChart();
        chart.reset(24, 24);
        chart.fill(0, 0, 24, 24, 6);
        Due.be("reset of a full chart", chart.reset(24, 24), 576);
        Due.be("its first cell", chart.cell(0, 0), 0);
        Due.be("its last cell", chart.cell(23, 23), 0);
        Due.be("cells that are not empty", chart.fill(0, 0, 24, 24, 0), 0);
    }

    private static void resetForgetsWhatASmallerChartHides() {
        StitchChart chart = new StitchChart();
        chart.reset(24, 24);
        chart.fill(0, 0, 24, 24, 5);
        chart.outline(5);
        chart.reset(1, 1);
        chart.reset(24, 24);
        Due.be("cells that came back", chart.fill(0, 0, 24, 24, 0), 0);
        Due.be("back stitches that came back", chart.clearBack(), 0);
    }

    private static void resetForgetsBackStitchesAtTheEnds() {
        StitchChart chart = new StitchChart();
        chart.reset(24, 24);
        chart.setBack(24, 23, true, true);
        chart.setBack(23, 24, false, true);
        chart.setBack(0, 0, true, true);
        chart.reset(24, 24);
        Due.be("the last upright edge", chart.back(24, 23, true), 0);
        Due.be("the last flat edge", chart.back(23, 24, false), 0);
        Due.be("the first edge", chart.back(0, 0, true), 0);
        Due.be("back stitches", chart.backs(0), 0);
    }

    private static void resetForgetsTheOrderOfEachColor() {
        for (int color = 1; color <= 6; color++) {
            StitchChart chart = new StitchChart();
            for (int x = 0; x < 6; x += 2) {
                chart.setCell(x, 0, color);
            }
            chart.moveRun(color, 0, 2);
            chart.reset(10, 8);
            Due.be("runs of " + color + " after reset", chart.count(color, 2), 0);
            Due.be("a place of " + color + " after reset", chart.runAt(color, 0), StitchChart.NONE);
            Due.be("thread of " + color + " after reset", chart.count(color, 3), 0);
            for (int x = 0; x < 6; x += 2) {
                chart.setCell(x, 0, color);
            }
            Due.order("the same runs again", chart, color, 0, 1, 2);
        }
    }

    private static void resetKeepsReachTailPagesAndText() {
        StitchChart chart = new StitchChart();
        chart.setThread(1000, 200);
        chart.setPages(4, 24, 3);
        Due.type(chart, "3f");
        chart.reset(5, 24);
        Due.be("columns and overlap stay", chart.page(1, 0), 1);
        Due.be("lines stay", chart.pages(), 2);
        Due.be("the text stays", chart.readChart(), 3);
        Due.be("its length stays", chart.clearText(), 2);
        Due.be("reach and tail stay", chart.setThread(0, 0), 201000);
    }

    private static void cellsEndAtTheSides() {
        for (int y = -2; y <= 3; y++) {
            for (int x = -2; x <= 4; x++) {
                StitchChart chart = Due.chart("fff", "fff");
                boolean exists = x >= 0 && x <= 2 && y >= 0 && y <= 1;
                String at = "(" + x + ", " + y + ")";
                Due.be("cell" + at, chart.cell(x, y), exists ? 6 : StitchChart.UNKNOWN);
                Due.be("isLone" + at, chart.isLone(x, y), exists ? 0 : StitchChart.UNKNOWN);
                Due.be("setCell" + at, chart.setCell(x, y, 5), exists ? 6 : StitchChart.UNKNOWN);
                Due.be("fill" + at, chart.fill(x, y, 1, 1, 4), exists ? 1 : StitchChart.UNKNOWN);
            }
        }
    }

    private static void cellsBehindALineAreNotThoseOfTheNext() {
        StitchChart chart = new StitchChart();
        for (int side : new int[] {10, 24}) {
            chart.reset(side, side);
            chart.setCell(0, 1, 3);
            Due.be("behind the first line", chart.cell(side, 0), StitchChart.UNKNOWN);
            Due.be("before the third line", chart.cell(-side, 2), StitchChart.UNKNOWN);
            Due.be("setting behind a line", chart.setCell(side, 0, 1), StitchChart.UNKNOWN);
            Due.be("setting before a line", chart.setCell(-1, 1, 1), StitchChart.UNKNOWN);
            Due.be("the next line", chart.cell(0, 1), 3);
            Due.be("stitches", chart.count(0, 0), 1);
        }
    }

    private static void coordinatesThatWrapAroundAreUnknown() {
        StitchChart chart = new StitchChart();
        chart.fill(0, 0, 10, 8, 2);
        int[] far = {1 << 29, 1 << 30, 3 << 28, Integer.MIN_VALUE, MOST, 256, -256, 65536, -65536};
        for (int value : far) {
            for (int[] at : new int[][] {{value, 0}, {0, value}, {value, value}, {value + 3, 3}, {3, value + 3}}) {
                String where = "(" + at[0] + ", " + at[1] + ")";
                Due.be("cell" + where, chart.cell(at[0], at[1]), StitchChart.UNKNOWN);
                Due.be("isLone" + where, chart.isLone(at[0], at[1]), StitchChart.UNKNOWN);
                Due.be("setCell" + where, chart.setCell(at[0], at[1], 1), StitchChart.UNKNOWN);
                Due.be("fill" + where, chart.fill(at[0], at[1], 1, 1, 1), StitchChart.UNKNOWN);
            }
        }
        Due.be("stitches of 2", chart.count(2, 0), 80);
    }

    private static void colorsAre0To6() {
        StitchChart chart = new StitchChart();
        for (int color = 0; color <= 6; color++) {
            chart.setCell(4, 4, 3);
            Due.be("setCell to " + color, chart.setCell(4, 4, color), 3);
            Due.be("cell of " + color, chart.cell(4, 4), color);
        }
        chart.setCell(7, 2, 2);
        Due.be("previous color where x and y differ", chart.setCell(7, 2, 5), 2);
        chart.setCell(7, 2, 0);
        for (int color : Due.outside(0, 6)) {
            Due.be("setCell to " + color, chart.setCell(4, 4, color), StitchChart.BAD_VALUE);
            Due.be("cell after " + color, chart.cell(4, 4), 6);
        }
    }

    private static void anUnknownCellComesBeforeAWrongColor() {
        StitchChart chart = new StitchChart();
        Due.be("left of the chart", chart.setCell(-1, 0, -1), StitchChart.UNKNOWN);
        Due.be("below the chart", chart.setCell(0, 8, 7), StitchChart.UNKNOWN);
        Due.be("in the chart", chart.setCell(9, 7, 7), StitchChart.BAD_VALUE);
    }

    private static void fillTakesOneCellAndTheWholeChart() {
        StitchChart chart = new StitchChart();
        Due.be("one cell", chart.fill(9, 7, 1, 1, 1), 1);
        Due.be("the whole chart", chart.fill(0, 0, 10, 8, 6), 80);
        Due.be("up to the right end", chart.fill(3, 0, 7, 1, 2), 7);
        Due.be("down to the lower end", chart.fill(0, 3, 1, 5, 2), 5);
        Due.be("stitches of 2", chart.count(2, 0), 12);
    }

    private static void fillRefusesSidesBelow1() {
        StitchChart chart = new StitchChart();
        for (int side : new int[] {0, -1, -256, -65535, Integer.MIN_VALUE}) {
            Due.be("width " + side, chart.fill(0, 0, side, 1, 1), StitchChart.BAD_VALUE);
            Due.be("height " + side, chart.fill(0, 0, 1, side, 1), StitchChart.BAD_VALUE);
            Due.be("both " + side, chart.fill(9, 7, side, side, 1), StitchChart.BAD_VALUE);
        }
        Due.be("stitches", chart.count(0, 0), 0);
    }

    private static void fillRefusesToLeaveTheChart() {
        StitchChart chart = new StitchChart();
        Due.be("one column too wide", chart.fill(0, 0, 11, 1, 1), StitchChart.BAD_VALUE);
        Due.be("one line too high", chart.fill(0, 0, 1, 9, 1), StitchChart.BAD_VALUE);
        Due.be("one column too wide, from x on", chart.fill(3, 0, 8, 1, 1), StitchChart.BAD_VALUE);
        Due.be("one line too high, from y on", chart.fill(0, 3, 1, 6, 1), StitchChart.BAD_VALUE);
        for (int side : new int[] {MOST, MOST - 8, 1 << 16, 257, 65537}) {
            Due.be("width " + side, chart.fill(9, 7, side, 1, 1), StitchChart.BAD_VALUE);
            Due.be("height " + side, chart.fill(9, 7, 1, side, 1), StitchChart.BAD_VALUE);
            Due.be("both " + side, chart.fill(1, 1, side, side, 1), StitchChart.BAD_VALUE);
        }
        Due.be("stitches", chart.count(0, 0), 0);
    }

    private static void fillRefusesColorsOutOfRange() {
        StitchChart chart = new StitchChart();
        for (int color : Due.outside(0, 6)) {
            Due.be("fill with " + color, chart.fill(0, 0, 10, 8, color), StitchChart.BAD_VALUE);
        }
        Due.be("stitches", chart.count(0, 0), 0);
        Due.be("fill with 6", chart.fill(0, 0, 10, 8, 6), 80);
        Due.be("fill with 0", chart.fill(0, 0, 10, 8, 0), 80);
    }

    private static void fillChecksTheCellFirst() {
        StitchChart chart = new StitchChart();
        for (int[] at : new int[][] {{-1, 0}, {0, -1}, {10, 0}, {0, 8}}) {
            String where = "(" + at[0] + ", " + at[1] + ")";
            Due.be("no width" + where, chart.fill(at[0], at[1], 0, 1, 1), StitchChart.UNKNOWN);
            Due.be("no height" + where, chart.fill(at[0], at[1], 1, 0, 1), StitchChart.UNKNOWN);
            Due.be("no color" + where, chart.fill(at[0], at[1], 1, 1, 7), StitchChart.UNKNOWN);
            Due.be("into the chart" + where, chart.fill(at[0], at[1], 2, 2, 1), StitchChart.UNKNOWN);
            Due.be("all wrong" + where, chart.fill(at[0], at[1], MOST, MOST, MOST), StitchChart.UNKNOWN);
        }
    }

    private static void fillCountsOnlyChanges() {
        StitchChart chart = Due.chart("aab", "...");
        Due.be("some change", chart.fill(0, 0, 3, 2, 1), 4);
        Due.be("none change", chart.fill(0, 0, 3, 2, 1), 0);
        Due.be("all change", chart.fill(0, 0, 3, 2, 0), 6);
    }

    private static void aSingleCellIsLone() {
        StitchChart chart = Due.chart("f");
        Due.be("isLone on a chart of one cell", chart.isLone(0, 0), 1);
        Due.be("lone stitches on it", chart.count(0, 1), 1);
    }

    private static void anEmptyCellIsNotLone() {
        StitchChart chart = Due.chart(".a", "aa");
        Due.be("isLone of an empty cell among stitches", chart.isLone(0, 0), 0);
        Due.be("isLone of one among empty cells", new StitchChart().isLone(0, 0), 0);
        Due.be("lone stitches of an empty chart", new StitchChart().count(0, 1), 0);
    }

    /** At each side and corner of the chart, a stitch of the same color next to it is seen, and none is missed. */
    private static void neighborsEndAtTheSides() {
        for (int side : new int[] {2, 3, 24}) {
            for (int y = 0; y < side; y += side - 1) {
                for (int x = 0; x < side; x += side - 1) {
                    int inX = x == 0 ? 1 : x - 1;
                    int inY = y == 0 ? 1 : y - 1;
                    StitchChart chart = new StitchChart();
                    chart.reset(side, side);
                    chart.setCell(x, y, 4);
                    String at = " at " + x + ", " + y + " of " + side;
                    Due.be("alone" + at, chart.isLone(x, y), 1);
                    for (int[] near : new int[][] {{inX, y}, {x, inY}, {inX, inY}}) {
                        chart.setCell(near[0], near[1], 4);
                        Due.be("with " + near[0] + ", " + near[1] + at, chart.isLone(x, y), 0);
                        chart.setCell(near[0], near[1], 5);
                        Due.be("with another color" + at, chart.isLone(x, y), 1);
                        chart.setCell(near[0], near[1], 0);
                    }
                }
            }
        }
    }

    private static void neighborsDoNotWrapAround() {
        for (int side : new int[] {10, 24}) {
            int last = side - 1;
            int[][] pairs = {{last, 0, 0, 1}, {last, 0, 0, 2}, {0, 0, last, 0}, {0, 0, 0, last}, {0, 0, last, last},
                {last, 1, 0, 1}, {last, 0, 0, last}, {last, 2, 0, 3}, {0, 0, 2, 0}, {0, 0, 0, 2}};
            for (int[] pair : pairs) {
                StitchChart chart = new StitchChart();
                chart.reset(side, side);
                chart.setCell(pair[0], pair[1], 1);
                chart.setCell(pair[2], pair[3], 1);
                String of = " of " + pair[0] + ", " + pair[1] + " and " + pair[2] + ", " + pair[3];
                Due.be("the first" + of, chart.isLone(pair[0], pair[1]), 1);
                Due.be("the second" + of, chart.isLone(pair[2], pair[3]), 1);
                Due.be("both" + of, chart.count(1, 1), 2);
                chart.setCell(pair[2], pair[3], 2);
                Due.be("merging" + of, chart.merge(20), 0);
            }
        }
    }

    private static void colorsOfEachNumberAreLone() {
        for (int color = 1; color <= 6; color++) {
            StitchChart chart = new StitchChart();
            chart.setCell(9, 7, color);
            Due.be("isLone of color " + color, chart.isLone(9, 7), 1);
            Due.be("lone stitches of color " + color, chart.count(color, 1), 1);
            Due.be("lone stitches with color " + color, chart.count(0, 1), 1);
        }
    }

    private static void mergeTakes1To20Rounds() {
        for (int rounds = 1; rounds <= 20; rounds++) {
            StitchChart swap = Due.chart("ab");
            Due.be("merge(" + rounds + ")", swap.merge(rounds), 2 * rounds);
            Due.cells("after " + rounds + " rounds", swap, rounds % 2 == 1 ? "ba" : "ab");
        }
    }

    private static void mergeRefusesOtherRounds() {
        StitchChart swap = Due.chart("ab");
        for (int rounds : Due.outside(1, 20)) {
            Due.be("merge(" + rounds + ")", swap.merge(rounds), StitchChart.BAD_VALUE);
            Due.cells("after " + rounds + " rounds", swap, "ab");
        }
    }

    private static void mergeMakesNoMoreRoundsThanAsked() {
        StitchChart row = Due.chart("abcdd");
        Due.be("merge(1)", row.merge(1), 3);
        Due.cells("after one round", row, "babdd");
        StitchChart two = Due.chart("abcdd");
        Due.be("merge(2)", two.merge(2), 6);
        Due.cells("after two rounds", two, "abadd");
    }

    private static void mergeEndsWhenARoundChangesNothing() {
        StitchChart chart = Due.chart("bbb", "bab", "bbb");
        Due.be("merge(20)", chart.merge(20), 1);
        Due.be("merge(20) of what is merged", chart.merge(20), 0);
        chart.moveRun(2, 0, 2);
        Due.be("merge(1) of what is merged", chart.merge(1), 0);
        Due.order("the order stays then", chart, 2, 1, 2, 0);
    }

    private static void mergingReachesTheLastCell() {
        for (int[] corner : new int[][] {{0, 0}, {23, 0}, {0, 23}, {23, 23}}) {
            StitchChart chart = new StitchChart();
            chart.reset(24, 24);
            int inX = corner[0] == 0 ? 1 : -1;
            int inY = corner[1] == 0 ? 1 : -1;
            chart.setCell(corner[0], corner[1], 6);
            chart.setCell(corner[0] + inX, corner[1] + inY, 3);
            chart.setCell(corner[0] + 2 * inX, corner[1] + 2 * inY, 3);
            Due.be("merging at " + corner[0] + ", " + corner[1], chart.merge(1), 1);
            Due.be("cell " + corner[0] + ", " + corner[1], chart.cell(corner[0], corner[1]), 3);
        }
    }

    private static void narrowChartsHaveLoneStitches() {
        StitchChart wide = new StitchChart();
        wide.reset(24, 1);
        wide.setCell(23, 0, 6);
        Due.be("lone at the end of 24 by 1", wide.isLone(23, 0), 1);
        Due.be("lone stitches of 24 by 1", wide.count(6, 1), 1);
        wide.fill(21, 0, 2, 1, 2);
        Due.be("merging at the end of 24 by 1", wide.merge(20), 1);
        Due.be("the end of 24 by 1", wide.cell(23, 0), 2);
        StitchChart high = new StitchChart();
        high.reset(1, 24);
        high.setCell(0, 23, 6);
        Due.be("lone at the end of 1 by 24", high.isLone(0, 23), 1);
        Due.be("lone stitches of 1 by 24", high.count(6, 1), 1);
        high.fill(0, 21, 1, 2, 2);
        Due.be("merging at the end of 1 by 24", high.merge(20), 1);
        Due.be("the end of 1 by 24", high.cell(0, 23), 2);
    }

    private static void mergingNeedsOneNeighbor() {
        StitchChart alone = Due.chart("a..", "...", "..b");
        Due.be("without neighbors", alone.merge(1), 0);
        Due.cells("without neighbors", alone, "a..", "...", "..b");
        StitchChart one = Due.chart("a..", ".b.", ".b.");
        Due.be("with one neighbor", one.merge(1), 1);
        Due.cells("with one neighbor", one, "b..", ".b.", ".b.");
    }

    private static void mergingDoesNotCountEmptyOnes() {
        StitchChart chart = Due.chart("...", ".a.", "..f", "..f");
        Due.be("seven empty ones and one stitch", chart.merge(1), 1);
        Due.cells("after merging", chart, "...", ".f.", "..f", "..f");
    }

    private static void mergingTakesTheLowestOfSeveral() {
        StitchChart pairs = Due.chart("eed", "fad", "fcc");
        Due.be("four pairs", pairs.merge(1), 1);
        Due.be("the lowest of four pairs", pairs.cell(1, 1), 3);
        StitchChart high = Due.chart("ff.", ".a.", ".ee");
        high.merge(1);
        Due.be("the lower of 5 and 6", high.cell(1, 1), 5);
        StitchChart own = Due.chart("ff.", ".b.", ".aa");
        own.merge(1);
        Due.be("a color below its own", own.cell(1, 1), 1);
    }

    private static void mergingTakesTheMostOfEight() {
        StitchChart all = Due.chart("fff", "faf", "fff");
        Due.be("eight of 6", all.merge(1), 1);
        Due.be("the cell among eight", all.cell(1, 1), 6);
        StitchChart most = Due.chart("ccc", "fac", "fff");
        Due.be("four of each", most.merge(1), 1);
        Due.be("the lower of four each", most.cell(1, 1), 3);
        StitchChart more = Due.chart("bbf", "baf", "fff");
        Due.be("three of 2 and five of 6", more.merge(1), 1);
        Due.be("the more frequent one", more.cell(1, 1), 6);
    }

    private static void mergingOfNothing() {
        Due.be("an empty chart", new StitchChart().merge(20), 0);
        StitchChart single = Due.chart("c");
        Due.be("a single stitch", single.merge(20), 0);
        Due.be("the single stitch", single.cell(0, 0), 3);
    }
}
