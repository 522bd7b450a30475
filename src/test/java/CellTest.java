/** Promises 2, 6, 7, 8, 10 and 11: the chart, its cells and merging. */
public final class CellTest {
    private static final int LEAST = Integer.MIN_VALUE;
    private static final int MOST = Integer.MAX_VALUE;

    public static void main(String[] args) {
        resetStartsAnew();
        resetRefusesWrongSides();
        setCellAnswersThePreviousColor();
        fillCountsChanges();
        fillRefusesInOrder();
        loneStitchesLookAtEightNeighbors();
        mergingTakesTheMostFrequentColor();
        mergingHappensAtOnceAndInRounds();
        mergeEndsEarly();
        Due.end();
    }

    private static void resetStartsAnew() {
        StitchChart chart = new StitchChart();
        chart.fill(0, 0, 10, 8, 2);
        chart.outline(2);
        Due.be("runs before", chart.count(2, 2), 8);
        chart.setThread(70, 20);
        chart.setPages(5, 4, 2);
        Due.type(chart, "2a");
        Due.be("reset(24, 1)", chart.reset(24, 1), 24);
        Due.be("cell(23, 0)", chart.cell(23, 0), 0);
        Due.be("cell(0, 1)", chart.cell(0, 1), StitchChart.UNKNOWN);
        Due.be("stitches", chart.count(0, 0), 0);
        Due.be("runs", chart.count(2, 2), 0);
        Due.be("back stitches", chart.backs(0), 0);
        Due.be("pages stay", chart.page(1, 0), 3);
        Due.be("text stays", chart.readChart(), 2);
        Due.be("thread stays", chart.setThread(60, 30), 20070);
        Due.be("reset(10, 8)", chart.reset(10, 8), 80);
        Due.be("cells are empty again", chart.count(0, 0), 0);
        Due.be("reset(1, 24)", chart.reset(1, 24), 24);
        Due.be("reset(1, 1)", chart.reset(1, 1), 1);
        Due.be("reset(24, 24)", chart.reset(24, 24), 576);
    }

    private static void resetRefusesWrongSides() {
        StitchChart chart = Due.chart("ab", "c.");
        int[][] wrong = {{0, 5}, {5, 0}, {25, 5}, {5, 25}, {-1, 5}, {5, -1}, {LEAST, MOST}, {MOST, LEAST}};
        for (int[] sides : wrong) {
            Due.be("reset(" + sides[0] + ", " + sides[1] + ")", chart.reset(sides[0], sides[1]),
                    StitchChart.BAD_VALUE);
        }
        Due.cells("after refused resets", chart, "ab", "c.");
        Due.be("cell(2, 0)", chart.cell(2, 0), StitchChart.UNKNOWN);
    }

    private static void setCellAnswersThePreviousColor() {
        StitchChart chart = new StitchChart();
        Due.be("setCell(9, 7, 6)", chart.setCell(9, 7, 6), 0);
        Due.be("setCell(9, 7, 1)", chart.setCell(9, 7, 1), 6);
        Due.be("setCell(9, 7, 1) again", chart.setCell(9, 7, 1), 1);
        Due.be("setCell(9, 7, 0)", chart.setCell(9, 7, 0), 1);
        Due.be("cell(9, 7)", chart.cell(9, 7), 0);
        int[][] outside = {{-1, 0}, {0, -1}, {10, 0}, {0, 8}, {LEAST, 0}, {0, LEAST}, {MOST, 0}, {0, MOST}};
        for (int[] at : outside) {
            String where = "(" + at[0] + ", " + at[1] + ")";
            Due.be("setCell" + where, chart.setCell(at[0], at[1], 1), StitchChart.UNKNOWN);
            Due.be("setCell with a wrong color" + where, chart.setCell(at[0], at[1], 7), StitchChart.UNKNOWN);
            Due.be("cell" + where, chart.cell(at[0], at[1]), StitchChart.UNKNOWN);
            Due.be("isLone" + where, chart.isLone(at[0], at[1]), StitchChart.UNKNOWN);
        }
        for (int color : new int[] {-1, 7, LEAST, MOST}) {
            Due.be("setCell(0, 0, " + color + ")", chart.setCell(0, 0, color), StitchChart.BAD_VALUE);
        }
        Due.be("stitches", chart.count(0, 0), 0);
    }

    private static void fillCountsChanges() {
        StitchChart chart = new StitchChart();
        Due.be("fill(1, 2, 3, 2, 4)", chart.fill(1, 2, 3, 2, 4), 6);
        Due.be("fill(1, 2, 3, 2, 4) again", chart.fill(1, 2, 3, 2, 4), 0);
        Due.be("fill(0, 0, 2, 3, 5)", chart.fill(0, 0, 2, 3, 5), 6);
        Due.cells("after fill", chart, "ee...", "ee...", "eedd.", ".ddd.", ".....");
        Due.be("fill(0, 0, 10, 8, 4)", chart.fill(0, 0, 10, 8, 4), 75);
        Due.be("fill(0, 0, 10, 8, 0)", chart.fill(0, 0, 10, 8, 0), 80);
        Due.be("fill(9, 7, 1, 1, 1)", chart.fill(9, 7, 1, 1, 1), 1);
    }

    private static void fillRefusesInOrder() {
        StitchChart chart = new StitchChart();
        Due.be("fill outside with wrong values", chart.fill(10, 0, 0, 0, 9), StitchChart.UNKNOWN);
        Due.be("fill above", chart.fill(0, -1, 2, 2, 1), StitchChart.UNKNOWN);
        Due.be("fill left", chart.fill(-1, 0, 2, 2, 1), StitchChart.UNKNOWN);
        Due.be("fill below", chart.fill(0, 8, 1, 1, 1), StitchChart.UNKNOWN);
        int[][] wrong = {{0, 0, 0, 1, 1}, {0, 0, 1, 0, 1}, {0, 0, -1, 1, 1}, {0, 0, 1, 1, 7}, {0, 0, 1, 1, -1},
            {0, 0, 11, 1, 1}, {0, 0, 1, 9, 1}, {9, 7, 2, 1, 1}, {9, 7, 1, 2, 1}, {9, 7, MOST, 1, 1},
            {9, 7, 1, MOST, 1}, {1, 1, MOST, MOST, 1}, {1, 1, LEAST, LEAST, 1}};
        for (int[] values : wrong) {
            Due.be("fill(" + values[0] + ", " + values[1] + ", " + values[2] + ", " + values[3] + ", " + values[4]
                    + ")", chart.fill(values[0], values[1], values[2], values[3], values[4]), StitchChart.BAD_VALUE);
        }
        Due.be("stitches", chart.count(0, 0), 0);
    }

    private static void loneStitchesLookAtEightNeighbors() {
        for (int dy = -2; dy <= 2; dy++) {
            for (int dx = -2; dx <= 2; dx++) {
                StitchChart chart = new StitchChart();
                chart.setCell(5, 4, 3);
                chart.setCell(5 + dx, 4 + dy, 3);
                boolean apart = Math.abs(dx) == 2 || Math.abs(dy) == 2 || dx == 0 && dy == 0;
                Due.be("isLone with " + dx + ", " + dy, chart.isLone(5, 4), apart ? 1 : 0);
                Due.be("isLone next to another color", lonelyBesideOther(dx, dy), 1);
            }
        }
        StitchChart chart = new StitchChart();
        Due.be("isLone of an empty cell", chart.isLone(0, 0), 0);
        chart.setCell(0, 0, 1);
        chart.setCell(9, 7, 1);
        Due.be("isLone at the end", chart.isLone(9, 7), 1);
        Due.be("lone stitches of 1", chart.count(1, 1), 2);
        chart.setCell(4, 4, 2);
        Due.be("lone stitches", chart.count(0, 1), 3);
    }

    private static int lonelyBesideOther(int dx, int dy) {
        StitchChart chart = new StitchChart();
        chart.setCell(5 + dx, 4 + dy, 2);
        chart.setCell(5, 4, 3);
        return chart.isLone(5, 4);
    }

    private static void mergingTakesTheMostFrequentColor() {
        StitchChart most = Due.chart("bb.", "bac", ".cc");
        Due.be("merge(1), of several the lowest", most.merge(1), 1);
        Due.cells("of several the lowest", most, "bb.", "bbc", ".cc");
        StitchChart more = Due.chart("bb.", ".ac", "ccc");
        Due.be("merge(1), the most frequent", more.merge(1), 1);
        Due.cells("the most frequent", more, "bb.", ".cc", "ccc");
        StitchChart alone = Due.chart("a...", "....", "..b.");
        Due.be("merge(20) without neighbors", alone.merge(20), 0);
        Due.cells("without neighbors", alone, "a...", "....", "..b.");
        StitchChart empties = Due.chart("...", ".af", "..f");
        Due.be("merge(1), empty ones do not count", empties.merge(1), 1);
        Due.cells("empty ones do not count", empties, "...", ".ff", "..f");
    }

    private static void mergingHappensAtOnceAndInRounds() {
        StitchChart swap = Due.chart("ab");
        Due.be("merge(1) of two", swap.merge(1), 2);
        Due.cells("after a round", swap, "ba");
        Due.be("merge(20) of two", swap.merge(20), 40);
        Due.cells("after an even number", swap, "ba");
        StitchChart row = Due.chart("abcdd");
        Due.be("merge(1) of a row", row.merge(1), 3);
        Due.cells("row after a round", row, "babdd");
        StitchChart changed = Due.chart("a.a.a", ".....", "ab...");
        changed.moveRun(1, 0, 3);
        Due.be("merge(2) there and back", changed.merge(2), 4);
        Due.cells("there and back", changed, "a.a.a", ".....", "ab...");
        Due.order("first order again", changed, 1, 0, 1, 2, 3);
    }

    private static void mergeEndsEarly() {
        StitchChart chart = Due.chart("bbb", "bab", "bbb");
        for (int rounds : new int[] {0, -1, 21, LEAST, MOST}) {
            Due.be("merge(" + rounds + ")", chart.merge(rounds), StitchChart.BAD_VALUE);
        }
        Due.cells("after refused merges", chart, "bbb", "bab", "bbb");
        Due.be("merge(20)", chart.merge(20), 1);
        Due.be("merge(1)", chart.merge(1), 0);
    }
}
