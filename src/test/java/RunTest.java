/** Promises 9 and 12 to 17: counting, runs, orders and the thread. */
public final class RunTest {
    private static final int LEAST = Integer.MIN_VALUE;
    private static final int MOST = Integer.MAX_VALUE;

    public static void main(String[] args) {
        runsAreNumberedByLines();
        countsOfOneAndAllColors();
        countRefusesWrongValues();
        runChecksInOrder();
        reachAndTailMakeTheThread();
        firstOrderTakesTheNearest();
        changesOfCellsMakeTheOrderFirst();
        movingKeepsTheOthers();
        moveRefusesWrongPlaces();
        shorteningTriesPlacesInOrder();
        setThreadAnswersThePrevious();
        theGreatestNumberOfRuns();
        Due.end();
    }

    private static StitchChart sample() {
        return Due.chart("aab.a", "..baa", "a.bb.", "aaaaa");
    }

    private static void runsAreNumberedByLines() {
        StitchChart chart = sample();
        int[][] due = {{0, 0, 2}, {4, 0, 1}, {3, 1, 2}, {0, 2, 1}, {0, 3, 5}};
        for (int run = 0; run < due.length; run++) {
            for (int what = 0; what < 3; what++) {
                Due.be("run(1, " + run + ", " + what + ")", chart.run(1, run, what), due[run][what]);
            }
        }
        Due.be("runs of 1", chart.count(1, 2), 5);
        Due.be("runs of 2", chart.count(2, 2), 3);
        Due.be("length of a run of 2", chart.run(2, 2, 2), 2);
        StitchChart ends = Due.chart("..a", "a..");
        Due.be("a run ends with its line", ends.count(1, 2), 2);
    }

    private static void countsOfOneAndAllColors() {
        StitchChart chart = sample();
        Due.be("stitches of 1", chart.count(1, 0), 11);
        Due.be("stitches of 2", chart.count(2, 0), 4);
        Due.be("stitches", chart.count(0, 0), 15);
        Due.be("lone stitches of 1", chart.count(1, 1), 0);
        Due.be("runs", chart.count(0, 2), 8);
        Due.be("thread of 2", chart.count(2, 3), 60 + 48 * 4 + 10 + 10);
        // order 0, 3, 4, 2, 1 with the ways 20, 10, 50, 20
        Due.be("thread of 1", chart.count(1, 3), 60 + 48 * 11 + 20 + 10 + 50 + 20);
        Due.be("thread", chart.count(0, 3), 272 + 688);
        Due.be("thread of 3", chart.count(3, 3), 0);
        Due.be("starts of 3", chart.count(3, 4), 0);
        Due.be("starts of 1", chart.count(1, 4), 1);
        Due.be("starts", chart.count(0, 4), 2);
        chart.setThread(49, 30);
        Due.be("starts of 1 with a new one", chart.count(1, 4), 2);
        Due.be("starts with a new one", chart.count(0, 4), 3);
        chart.setThread(9, 30);
        Due.be("starts without carries", chart.count(0, 4), 8);
        Due.be("lone stitches of both", Due.chart("a..b", "....", "c..c", "...c").count(0, 1), 3);
    }

    private static void countRefusesWrongValues() {
        StitchChart chart = sample();
        int[][] wrong = {{-1, 0}, {7, 0}, {0, -1}, {0, 5}, {1, 5}, {LEAST, 0}, {0, MOST}, {MOST, LEAST}};
        for (int[] values : wrong) {
            Due.be("count(" + values[0] + ", " + values[1] + ")", chart.count(values[0], values[1]),
                    StitchChart.BAD_VALUE);
        }
    }

    private static void runChecksInOrder() {
        StitchChart chart = sample();
        for (int color : new int[] {0, -1, 7, LEAST, MOST}) {
            Due.be("run of color " + color, chart.run(color, 99, 99), StitchChart.BAD_VALUE);
            Due.be("runAt of color " + color, chart.runAt(color, 0), StitchChart.BAD_VALUE);
            Due.be("firstOrder of color " + color, chart.firstOrder(color), StitchChart.BAD_VALUE);
            Due.be("shorten of color " + color, chart.shorten(color), StitchChart.BAD_VALUE);
        }
        for (int run : new int[] {-1, 5, LEAST, MOST}) {
            Due.be("run " + run, chart.run(1, run, 99), StitchChart.UNKNOWN);
        }
        Due.be("run without runs", chart.run(6, 0, 0), StitchChart.UNKNOWN);
        for (int what : new int[] {-1, 4, LEAST, MOST}) {
            Due.be("run what " + what, chart.run(1, 0, what), StitchChart.BAD_VALUE);
        }
        Due.be("runAt(1, -1)", chart.runAt(1, -1), StitchChart.BAD_VALUE);
        Due.be("runAt least", chart.runAt(1, LEAST), StitchChart.BAD_VALUE);
        Due.be("runAt(1, 5)", chart.runAt(1, 5), StitchChart.NONE);
        Due.be("runAt most", chart.runAt(1, MOST), StitchChart.NONE);
        Due.be("runAt without runs", chart.runAt(6, 0), StitchChart.NONE);
    }

    private static void reachAndTailMakeTheThread() {
        StitchChart chart = Due.chart("a.....a");
        Due.be("carried at the reach", chart.count(1, 3), 96 + 60 + 60);
        chart.setThread(59, 30);
        Due.be("new start beyond it", chart.count(1, 3), 96 + 60 + 60);
        Due.be("starts beyond it", chart.count(1, 4), 2);
        chart.setThread(59, 7);
        Due.be("twice the tail", chart.count(1, 3), 96 + 14 + 14);
        chart.setThread(60, 7);
        Due.be("carried again", chart.count(1, 3), 96 + 14 + 60);
        chart.setThread(0, 0);
        Due.be("no reach, no tail", chart.count(1, 3), 96);
        chart.setThread(1000, 200);
        Due.be("greatest reach and tail", chart.count(1, 3), 96 + 400 + 60);
        Due.be("way by begins", Due.chart("aaa..a").count(1, 3), 48 * 4 + 60 + 50);
    }

    private static void firstOrderTakesTheNearest() {
        StitchChart ties = Due.chart("..a..", ".....", "a...a", ".....", "..a..");
        Due.order("of several the lowest", ties, 1, 0, 1, 2, 3);
        StitchChart near = Due.chart("a....a", "......", ".....a", "......", "a.....");
        Due.order("the nearest", near, 1, 0, 3, 2, 1);
        Due.be("moveRun(1, 3, 0)", near.moveRun(1, 3, 0), 192 + 60 + 50 + 40 + 60);
        Due.be("firstOrder(1)", near.firstOrder(1), 192 + 60 + 40 + 60 + 20);
        Due.order("the nearest again", near, 1, 0, 3, 2, 1);
        Due.be("firstOrder without runs", near.firstOrder(2), 0);
        StitchChart way = Due.chart("a...a......", "...........", "...........", "...........", "a..........");
        way.setThread(10, 1);
        Due.order("by the way, not by its cost", way, 1, 0, 1, 2);
    }

    private static void changesOfCellsMakeTheOrderFirst() {
        StitchChart chart = Due.chart("a.a.a.", "b.b.b.", "c.c.c.");
        for (int color = 1; color <= 3; color++) {
            chart.moveRun(color, 0, 2);
        }
        chart.setCell(0, 0, 1);
        chart.fill(0, 0, 1, 1, 1);
        Due.order("no change", chart, 1, 1, 2, 0);
        chart.setCell(5, 0, 2);
        Due.order("another color", chart, 1, 1, 2, 0);
        Due.order("the new color", chart, 2, 0, 3, 2, 1);
        Due.order("a color that has no part", chart, 3, 1, 2, 0);
        chart.moveRun(2, 0, 3);
        chart.setCell(5, 0, 3);
        Due.order("the old color", chart, 2, 0, 1, 2);
        Due.order("the new color then", chart, 3, 0, 3, 2, 1);
        chart.moveRun(1, 0, 1);
        chart.setCell(0, 0, 0);
        Due.order("emptied", chart, 1, 0, 1);
        chart.moveRun(1, 0, 1);
        chart.setCell(0, 0, 7);
        chart.setThread(100, 10);
        chart.setPages(4, 4, 0);
        chart.outline(1);
        Due.order("no cells touched", chart, 1, 1, 0);
    }

    private static void movingKeepsTheOthers() {
        StitchChart chart = Due.chart("a.a.a.a.a");
        int stitches = 48 * 5 + 60;
        Due.be("moveRun(1, 1, 3)", chart.moveRun(1, 1, 3), stitches + 40 + 20 + 40 + 60);
        Due.order("forwards", chart, 1, 0, 2, 3, 1, 4);
        Due.be("moveRun(1, 4, 0)", chart.moveRun(1, 4, 0), stitches + 60 + 40 + 20 + 40);
        Due.order("backwards", chart, 1, 4, 0, 2, 3, 1);
        Due.be("moveRun(1, 2, 2)", chart.moveRun(1, 2, 2), stitches + 160);
        Due.order("to itself", chart, 1, 4, 0, 2, 3, 1);
        Due.be("moveRun(1, 0, 4)", chart.moveRun(1, 0, 4), stitches + 40 + 20 + 40 + 60);
        Due.order("to the end", chart, 1, 0, 2, 3, 1, 4);
        Due.be("moveRun of a single run", Due.chart("aa").moveRun(1, 0, 0), 96 + 60);
    }

    private static void moveRefusesWrongPlaces() {
        StitchChart chart = Due.chart("a.a.a");
        int[][] wrong = {{0, 0, 0}, {7, 0, 0}, {1, -1, 0}, {1, 0, -1}, {1, 3, 0}, {1, 0, 3}, {2, 0, 0},
            {1, LEAST, MOST}, {1, MOST, LEAST}, {LEAST, 0, 0}, {MOST, 0, 0}};
        for (int[] values : wrong) {
            Due.be("moveRun(" + values[0] + ", " + values[1] + ", " + values[2] + ")",
                    chart.moveRun(values[0], values[1], values[2]), StitchChart.BAD_VALUE);
        }
        Due.order("after refused moves", chart, 1, 0, 1, 2);
    }

    private static void shorteningTriesPlacesInOrder() {
        StitchChart chart = Due.chart("a.a.a.a");
        Due.be("shorten of the shortest", chart.shorten(1), 0);
        chart.moveRun(1, 0, 3);
        // 1 2 3 0 becomes 2 3 1 0 by the run at the place 0, then 3 2 1 0 by the one at the place 1
        Due.be("thread before", chart.count(1, 3), 192 + 60 + 100);
        Due.be("shorten(1)", chart.shorten(1), 2);
        Due.order("after shortening", chart, 1, 3, 2, 1, 0);
        Due.be("thread then", chart.count(1, 3), 192 + 60 + 60);
        Due.be("shorten(1) again", chart.shorten(1), 0);
        Due.be("shorten without runs", chart.shorten(2), 0);
        StitchChart starts = Due.chart("a.a.a.a");
        starts.setThread(20, 1);
        // 0 1 2 3 becomes 1 0 2 3, and from the same place 0 2 1 3
        Due.be("shorten by new starts", starts.shorten(1), 2);
        Due.order("after shortening by new starts", starts, 1, 0, 2, 1, 3);
        Due.be("thread with new starts", starts.count(1, 3), 192 + 2 + 2 + 20 + 2);
        shorteningToTheBegin();
        shorteningInTwoPasses();
        StitchChart same = Due.chart("a.a.a.a");
        same.moveRun(1, 0, 3);
        same.setThread(0, 5);
        Due.be("moves that do not save are not made", same.shorten(1), 0);
        Due.order("order of moves that do not save", same, 1, 1, 2, 3, 0);
    }

    /** Of 1 2 3 4 0, only moving 0 to the begin saves. */
    private static void shorteningToTheBegin() {
        StitchChart chart = Due.chart("a.a.a.a.a");
        chart.moveRun(1, 0, 4);
        Due.be("shorten of 1 2 3 4 0", chart.shorten(1), 1);
        Due.order("after shortening 1 2 3 4 0", chart, 1, 0, 1, 2, 3, 4);
    }

    /** 0 1 4 2 3 becomes 4 0 1 2 3, and in the next pass 0 1 2 4 3 and 0 1 2 3 4. */
    private static void shorteningInTwoPasses() {
        StitchChart chart = Due.chart("a.a.a.a.a");
        chart.moveRun(1, 4, 2);
        Due.be("shorten of 0 1 4 2 3", chart.shorten(1), 3);
        Due.order("after shortening 0 1 4 2 3", chart, 1, 0, 1, 2, 3, 4);
    }

    private static void setThreadAnswersThePrevious() {
        StitchChart chart = new StitchChart();
        Due.be("setThread(0, 200)", chart.setThread(0, 200), 30060);
        Due.be("setThread(1000, 0)", chart.setThread(1000, 0), 200000);
        int[][] wrong = {{-1, 0}, {1001, 0}, {0, -1}, {0, 201}, {LEAST, 0}, {0, LEAST}, {MOST, MOST}};
        for (int[] values : wrong) {
            Due.be("setThread(" + values[0] + ", " + values[1] + ")", chart.setThread(values[0], values[1]),
                    StitchChart.BAD_VALUE);
        }
        Due.be("setThread(5, 6)", chart.setThread(5, 6), 1000);
    }

    private static void theGreatestNumberOfRuns() {
        StitchChart chart = new StitchChart();
        chart.reset(24, 24);
        for (int x = 0; x < 24; x += 2) {
            chart.fill(x, 0, 1, 24, 6);
        }
        Due.be("runs", chart.count(6, 2), 288);
        Due.be("last run's y", chart.run(6, 287, 1), 23);
        Due.be("last run's x", chart.run(6, 287, 0), 22);
        Due.be("moveRun(6, 0, 287)", chart.moveRun(6, 0, 287) > 0 ? 1 : 0, 1);
        Due.be("runAt(6, 287)", chart.runAt(6, 287), 0);
        Due.be("runAt(6, 288)", chart.runAt(6, 288), StitchChart.NONE);
        Due.be("shorten", chart.shorten(6) > 0 ? 1 : 0, 1);
    }
}
