/** Promises 9 and 12 to 17 where they end: a test for each sentence of "Runs" and "Orders" that names a limit. */
public final class RunLimitsTest {
    private static final int MOST = Integer.MAX_VALUE;
    private static final int LEAST = Integer.MIN_VALUE;

    public static void main(String[] args) {
        counting();
        runs();
        places();
        threads();
        changes();
        shortening();
        Due.end();
    }

    private static void counting() {
        countOfAnEmptyChartIs0();
        countOfASingleStitch();
        countOfAFullChart();
        countTakesEachColorAndAllTogether();
        countRefusesOtherColors();
        countRefusesOtherProperties();
    }

    private static void runs() {
        aRunIsAsLongAsPossible();
        aRunEndsWithItsLine();
        runsAreNumberedByLinesFirst();
        runsOfTheGreatestNumber();
        runRefusesColorsFirst();
        runsThatDoNotExistAreUnknown();
        runRefusesPropertiesLast();
    }

    private static void places() {
        runAtAnswersNoneBehindTheLastPlace();
        runAtRefusesNegativePlaces();
        runAtRefusesColors();
        moveRunFromEndToEnd();
        moveRunToItsOwnPlace();
        moveRunRefusesPlacesThatDoNotExist();
        moveRunRefusesColors();
        moveRunWithoutRuns();
        firstOrderWithoutAndWithOneRun();
        firstOrderAndShortenRefuseColors();
    }

    private static void threads() {
        reachAndTailAtFirst();
        setThreadTakesItsLimits();
        setThreadRefusesWhatIsOutOfRange();
        aWayOfTheReachIsCarried();
        aWayOf0ReachIsNeverCarried();
        theLongestWayIsCarriedByTheGreatestReach();
        aNewStartCostsTwiceTheTail();
        waysGoFromBeginToBegin();
        threadWithoutRunsIs0();
        threadOfOneRunHasBothTails();
    }

    private static void changes() {
        theFirstOrderBeginsWithRun0();
        theNearestIsByTheWay();
        ofSeveralNearestTheLowest();
        aNewColorMakesTwoOrdersFirst();
        emptyingMakesOneOrderFirst();
        theSameColorLeavesTheOrder();
        fillMakesOrdersOfOldColorsFirst();
        mergingMakesOrdersFirst();
        mergingThereAndBackMakesOrdersFirst();
        refusedAndOtherCallsLeaveTheOrder();
    }

    private static void shortening() {
        shortenWithoutRuns();
        shortenOfOneAndTwoRuns();
        shortenMovesToTheLastPlace();
        shortenMovesToTheFirstPlace();
        shortenMakesNoMoveThatSavesNothing();
        shortenGoesOnWithTheNextPlaceAfterAMove();
        shortenIsRepeatedUntilNothingMoves();
        shortenOfTheGreatestNumberOfRuns();
    }

    private static void dueCounts(String when, StitchChart chart, int color, int... due) {
        for (int what = 0; what < due.length; what++) {
            Due.be(when + ": count(" + color + ", " + what + ")", chart.count(color, what), due[what]);
        }
    }

    private static void countOfAnEmptyChartIs0() {
        StitchChart chart = new StitchChart();
        chart.setThread(0, 200);
        for (int color = 0; color <= 6; color++) {
            dueCounts("an empty chart", chart, color, 0, 0, 0, 0, 0);
        }
    }

    private static void countOfASingleStitch() {
        StitchChart chart = Due.chart("f");
        dueCounts("a single stitch", chart, 6, 1, 1, 1, 48 + 60, 1);
        dueCounts("a single stitch", chart, 0, 1, 1, 1, 48 + 60, 1);
        dueCounts("a single stitch", chart, 5, 0, 0, 0, 0, 0);
    }

    private static void countOfAFullChart() {
        StitchChart chart = new StitchChart();
        chart.reset(24, 24);
        chart.fill(0, 0, 24, 24, 6);
        dueCounts("a full chart", chart, 6, 576, 0, 24, 48 * 576 + 60 + 23 * 10, 1);
        chart.setThread(9, 200);
        dueCounts("a full chart without carries", chart, 0, 576, 0, 24, 48 * 576 + 24 * 400, 24);
    }

    private static void countTakesEachColorAndAllTogether() {
        StitchChart chart = Due.chart("abcdef", "......", "aabbcc");
        chart.setThread(10, 7);
        for (int color = 1; color <= 3; color++) {
            dueCounts("color " + color, chart, color, 3, 1, 2, 3 * 48 + 28, 2);
        }
        for (int color = 4; color <= 6; color++) {
            dueCounts("color " + color, chart, color, 1, 1, 1, 48 + 14, 1);
        }
        dueCounts("all colors", chart, 0, 12, 6, 9, 12 * 48 + 3 * 28 + 3 * 14, 9);
    }

    private static void countRefusesOtherColors() {
        StitchChart chart = Due.chart("f");
        for (int color : Due.outside(0, 6)) {
            for (int what = 0; what <= 5; what++) {
                Due.be("count(" + color + ", " + what + ")", chart.count(color, what), StitchChart.BAD_VALUE);
            }
        }
    }

    private static void countRefusesOtherProperties() {
        StitchChart chart = Due.chart("f");
        for (int what : Due.outside(0, 4)) {
            for (int color = 0; color <= 7; color++) {
                Due.be("count(" + color + ", " + what + ")", chart.count(color, what), StitchChart.BAD_VALUE);
            }
        }
    }

    private static void dueRun(StitchChart chart, int color, int run, int... due) {
        for (int what = 0; what < due.length; what++) {
            Due.be("run(" + color + ", " + run + ", " + what + ")", chart.run(color, run, what), due[what]);
        }
    }

    private static void aRunIsAsLongAsPossible() {
        for (int width = 1; width <= 24; width++) {
            StitchChart chart = new StitchChart();
            chart.reset(width, 1);
            chart.fill(0, 0, width, 1, 1);
            Due.be("runs of a line of " + width, chart.count(1, 2), 1);
            dueRun(chart, 1, 0, 0, 0, width, 0);
        }
        StitchChart middle = Due.chart(".bb.", "abba");
        dueRun(middle, 2, 0, 1, 0, 2, 0);
        dueRun(middle, 2, 1, 1, 1, 2, 1);
    }

    private static void aRunEndsWithItsLine() {
        StitchChart chart = new StitchChart();
        chart.reset(24, 3);
        chart.fill(22, 0, 2, 1, 1);
        chart.fill(0, 1, 3, 1, 1);
        chart.setCell(23, 1, 1);
        chart.setCell(0, 2, 1);
        Due.be("runs", chart.count(1, 2), 4);
        dueRun(chart, 1, 0, 22, 0, 2);
        dueRun(chart, 1, 1, 0, 1, 3);
        dueRun(chart, 1, 2, 23, 1, 1);
        dueRun(chart, 1, 3, 0, 2, 1);
    }

    private static void runsAreNumberedByLinesFirst() {
        StitchChart chart = Due.chart("...a", "a.a.", ".a..");
        int[][] begins = {{3, 0}, {0, 1}, {2, 1}, {1, 2}};
        for (int run = 0; run < begins.length; run++) {
            dueRun(chart, 1, run, begins[run][0], begins[run][1], 1);
        }
    }

    private static StitchChart striped(int color) {
        StitchChart chart = new StitchChart();
        chart.reset(24, 24);
        for (int x = 0; x < 24; x += 2) {
            chart.fill(x, 0, 1, 24, color);
        }
        return chart;
    }

    private static void runsOfTheGreatestNumber() {
        for (int color = 1; color <= 6; color++) {
            StitchChart chart = striped(color);
            Due.be("runs of " + color, chart.count(color, 2), 288);
            dueRun(chart, color, 287, 22, 23, 1);
            Due.be("run 288", chart.run(color, 288, 0), StitchChart.UNKNOWN);
            Due.be("the last place is taken", chart.runAt(color, 287) >= 0 ? 1 : 0, 1);
            Due.be("the place behind it", chart.runAt(color, 288), StitchChart.NONE);
            chart.moveRun(color, 0, 287);
            Due.be("the last place", chart.runAt(color, 287), 0);
            Due.be("moving from behind it", chart.moveRun(color, 288, 0), StitchChart.BAD_VALUE);
        }
    }

    private static void runRefusesColorsFirst() {
        StitchChart chart = Due.chart("f");
        for (int color : Due.outside(1, 6)) {
            Due.be("run(" + color + ", 0, 0)", chart.run(color, 0, 0), StitchChart.BAD_VALUE);
            Due.be("run(" + color + ", -1, 0)", chart.run(color, -1, 0), StitchChart.BAD_VALUE);
            Due.be("run(" + color + ", 1, 4)", chart.run(color, 1, 4), StitchChart.BAD_VALUE);
        }
        dueRun(chart, 6, 0, 0, 0, 1, 0);
    }

    private static void runsThatDoNotExistAreUnknown() {
        StitchChart chart = Due.chart("a.a");
        for (int run : Due.outside(0, 1)) {
            for (int what : new int[] {0, 1, 2, 3, -1, 4, MOST, LEAST}) {
                Due.be("run(1, " + run + ", " + what + ")", chart.run(1, run, what), StitchChart.UNKNOWN);
            }
        }
        Due.be("run 0 of a color without runs", chart.run(2, 0, 0), StitchChart.UNKNOWN);
        Due.be("run 0 of one that had runs", emptied().run(1, 0, 0), StitchChart.UNKNOWN);
    }

    private static StitchChart emptied() {
        StitchChart chart = Due.chart("a.a");
        chart.moveRun(1, 0, 1);
        chart.fill(0, 0, 3, 1, 0);
        return chart;
    }

    private static void runRefusesPropertiesLast() {
        StitchChart chart = Due.chart("a.a");
        for (int what : Due.outside(0, 3)) {
            Due.be("run(1, 1, " + what + ")", chart.run(1, 1, what), StitchChart.BAD_VALUE);
        }
    }

    private static void runAtAnswersNoneBehindTheLastPlace() {
        StitchChart chart = Due.chart("a.a");
        Due.be("the last place", chart.runAt(1, 1), 1);
        for (int place : new int[] {2, 3, 255, 256, 65536, MOST}) {
            Due.be("runAt(1, " + place + ")", chart.runAt(1, place), StitchChart.NONE);
        }
        Due.be("without runs", chart.runAt(6, 0), StitchChart.NONE);
        Due.be("without runs any more", emptied().runAt(1, 0), StitchChart.NONE);
    }

    private static void runAtRefusesNegativePlaces() {
        StitchChart chart = Due.chart("a.a");
        for (int place : new int[] {-1, -2, -256, -65536, LEAST}) {
            Due.be("runAt(1, " + place + ")", chart.runAt(1, place), StitchChart.BAD_VALUE);
            Due.be("without runs, runAt(2, " + place + ")", chart.runAt(2, place), StitchChart.BAD_VALUE);
        }
    }

    private static void runAtRefusesColors() {
        StitchChart chart = Due.chart("f");
        for (int color : Due.outside(1, 6)) {
            for (int place : new int[] {0, 1, -1, MOST}) {
                Due.be("runAt(" + color + ", " + place + ")", chart.runAt(color, place), StitchChart.BAD_VALUE);
            }
        }
        Due.be("runAt(6, 0)", chart.runAt(6, 0), 0);
    }

    private static void moveRunFromEndToEnd() {
        StitchChart chart = Due.chart("f.f.f");
        Due.be("to the last place", chart.moveRun(6, 0, 2), 3 * 48 + 60 + 20 + 40);
        Due.order("to the last place", chart, 6, 1, 2, 0);
        Due.be("to the first place", chart.moveRun(6, 2, 0), 3 * 48 + 60 + 40);
        Due.order("to the first place", chart, 6, 0, 1, 2);
    }

    private static void moveRunToItsOwnPlace() {
        StitchChart chart = Due.chart("a.a.a");
        for (int place = 0; place < 3; place++) {
            Due.be("moveRun(1, " + place + ", " + place + ")", chart.moveRun(1, place, place), 3 * 48 + 60 + 40);
            Due.order("to its own place", chart, 1, 0, 1, 2);
        }
        Due.be("of a single run", Due.chart("a").moveRun(1, 0, 0), 48 + 60);
    }

    private static void moveRunRefusesPlacesThatDoNotExist() {
        StitchChart chart = Due.chart("a.a.a");
        for (int place : Due.outside(0, 2)) {
            Due.be("moveRun(1, " + place + ", 0)", chart.moveRun(1, place, 0), StitchChart.BAD_VALUE);
            Due.be("moveRun(1, 0, " + place + ")", chart.moveRun(1, 0, place), StitchChart.BAD_VALUE);
            Due.be("moveRun(1, both " + place + ")", chart.moveRun(1, place, place), StitchChart.BAD_VALUE);
        }
        Due.order("after refused moves", chart, 1, 0, 1, 2);
    }

    private static void moveRunRefusesColors() {
        StitchChart chart = Due.chart("f.f");
        for (int color : Due.outside(1, 6)) {
            Due.be("moveRun(" + color + ", 0, 1)", chart.moveRun(color, 0, 1), StitchChart.BAD_VALUE);
            Due.be("moveRun(" + color + ", 0, 0)", chart.moveRun(color, 0, 0), StitchChart.BAD_VALUE);
        }
        Due.order("after refused moves", chart, 6, 0, 1);
    }

    private static void moveRunWithoutRuns() {
        Due.be("no runs", new StitchChart().moveRun(1, 0, 0), StitchChart.BAD_VALUE);
        Due.be("no runs any more", emptied().moveRun(1, 0, 0), StitchChart.BAD_VALUE);
    }

    private static void firstOrderWithoutAndWithOneRun() {
        Due.be("without runs", new StitchChart().firstOrder(6), 0);
        Due.be("without runs any more", emptied().firstOrder(1), 0);
        StitchChart one = Due.chart("ff");
        Due.be("with one run", one.firstOrder(6), 96 + 60);
        Due.order("with one run", one, 6, 0);
    }

    private static void firstOrderAndShortenRefuseColors() {
        StitchChart chart = Due.chart("f.f.f");
        chart.moveRun(6, 0, 2);
        for (int color : Due.outside(1, 6)) {
            Due.be("firstOrder(" + color + ")", chart.firstOrder(color), StitchChart.BAD_VALUE);
            Due.be("shorten(" + color + ")", chart.shorten(color), StitchChart.BAD_VALUE);
        }
        Due.order("after refused colors", chart, 6, 1, 2, 0);
    }

    private static void reachAndTailAtFirst() {
        Due.be("setThread at first", new StitchChart().setThread(0, 0), 30060);
    }

    private static void setThreadTakesItsLimits() {
        StitchChart chart = new StitchChart();
        Due.be("setThread(0, 0)", chart.setThread(0, 0), 30060);
        Due.be("setThread(1000, 200)", chart.setThread(1000, 200), 0);
        Due.be("setThread(0, 200)", chart.setThread(0, 200), 201000);
        Due.be("setThread(1000, 0)", chart.setThread(1000, 0), 200000);
        Due.be("setThread(60, 30)", chart.setThread(60, 30), 1000);
    }

    private static void setThreadRefusesWhatIsOutOfRange() {
        StitchChart chart = new StitchChart();
        for (int reach : Due.outside(0, 1000)) {
            if (reach < 0 || reach > 1000) {
                Due.be("setThread(" + reach + ", 0)", chart.setThread(reach, 0), StitchChart.BAD_VALUE);
                Due.be("setThread(" + reach + ", 201)", chart.setThread(reach, 201), StitchChart.BAD_VALUE);
            }
        }
        for (int tail : Due.outside(0, 200)) {
            Due.be("setThread(0, " + tail + ")", chart.setThread(0, tail), StitchChart.BAD_VALUE);
        }
        Due.be("reach and tail stay", chart.setThread(0, 0), 30060);
    }

    private static void dueThread(String when, StitchChart chart, int thread, int starts) {
        Due.be(when + ": thread", chart.count(1, 3), thread);
        Due.be(when + ": starts", chart.count(1, 4), starts);
    }

    private static void aWayOfTheReachIsCarried() {
        StitchChart chart = Due.chart("a....a", "......", "......");
        chart.setThread(50, 3);
        dueThread("a way of the reach", chart, 96 + 6 + 50, 1);
        chart.setThread(49, 3);
        dueThread("a way of one more", chart, 96 + 6 + 6, 2);
        chart.setThread(51, 3);
        dueThread("a way of one less", chart, 96 + 6 + 50, 1);
        StitchChart down = Due.chart("..a", "...", "a..");
        down.setThread(40, 3);
        dueThread("x and y together", down, 96 + 6 + 40, 1);
        down.setThread(39, 3);
        dueThread("x and y together beyond the reach", down, 96 + 6 + 6, 2);
    }

    private static void aWayOf0ReachIsNeverCarried() {
        StitchChart chart = Due.chart("a", "a");
        chart.setThread(0, 1);
        dueThread("no reach", chart, 96 + 2 + 2, 2);
        chart.setThread(10, 1);
        dueThread("the shortest way", chart, 96 + 2 + 10, 1);
        chart.setThread(9, 0);
        dueThread("no tail", chart, 96, 2);
    }

    private static void theLongestWayIsCarriedByTheGreatestReach() {
        StitchChart chart = new StitchChart();
        chart.reset(24, 24);
        chart.setCell(0, 0, 1);
        chart.setCell(23, 23, 1);
        chart.setThread(1000, 200);
        dueThread("the greatest reach", chart, 96 + 400 + 460, 1);
        chart.setThread(460, 200);
        dueThread("a reach of the longest way", chart, 96 + 400 + 460, 1);
        chart.setThread(459, 200);
        dueThread("one less", chart, 96 + 400 + 400, 2);
    }

    private static void aNewStartCostsTwiceTheTail() {
        StitchChart chart = Due.chart("a.a.a");
        for (int tail : new int[] {0, 1, 200}) {
            chart.setThread(19, tail);
            dueThread("a tail of " + tail, chart, 3 * 48 + 6 * tail, 3);
            chart.setThread(20, tail);
            dueThread("carries with a tail of " + tail, chart, 3 * 48 + 2 * tail + 40, 1);
        }
    }

    private static void waysGoFromBeginToBegin() {
        StitchChart chart = Due.chart("aaaa.a", "..aaaa");
        // from 0, 0 the ways are 50 to 5, 0 and 30 to 2, 1, and 40 between them
        dueThread("begins", chart, 9 * 48 + 60 + 30 + 40, 1);
        Due.order("begins", chart, 1, 0, 2, 1);
    }

    private static void threadWithoutRunsIs0() {
        StitchChart chart = emptied();
        chart.setThread(0, 200);
        dueThread("no runs any more", chart, 0, 0);
        Due.be("their first order", chart.firstOrder(1), 0);
    }

    private static void threadOfOneRunHasBothTails() {
        StitchChart chart = Due.chart("aaa");
        for (int tail : new int[] {0, 200}) {
            chart.setThread(0, tail);
            dueThread("a tail of " + tail, chart, 144 + 2 * tail, 1);
        }
    }

    private static void theFirstOrderBeginsWithRun0() {
        StitchChart chart = Due.chart("....a", "aaaa.", "a....");
        // run 0 begins at 4, 0, run 1 at 0, 1, run 2 at 0, 2
        Due.order("run 0 is first", chart, 1, 0, 1, 2);
        StitchChart last = Due.chart("..a..", "a...a", "a...a");
        // from 2, 0 both sides are 30 away; then 0, 2 is nearest to 0, 1
        Due.order("on from the last one", last, 1, 0, 1, 3, 4, 2);
    }

    private static void theNearestIsByTheWay() {
        for (int reach : new int[] {0, 10, 1000}) {
            StitchChart chart = new StitchChart();
            chart.setThread(reach, 0);
            chart.reset(10, 2);
            chart.setCell(0, 0, 1);
            chart.setCell(9, 0, 1);
            chart.setCell(3, 1, 1);
            Due.order("the nearest with a reach of " + reach, chart, 1, 0, 2, 1);
        }
    }

    private static void ofSeveralNearestTheLowest() {
        StitchChart chart = Due.chart("..a..", ".....", "a.a.a", ".....", "..a..");
        // run 2 is nearest; from there 1, 3 and 4 are 20 away, then 3 and 4 are 40 and 40 away
        Due.order("of several the lowest", chart, 1, 0, 2, 1, 3, 4);
    }

    private static StitchChart threeMoved() {
        StitchChart chart = Due.chart("a.a.a", "b.b.b", "c.c.c");
        for (int color = 1; color <= 3; color++) {
            chart.moveRun(color, 0, 2);
        }
        return chart;
    }

    private static void aNewColorMakesTwoOrdersFirst() {
        StitchChart chart = threeMoved();
        chart.setCell(4, 0, 2);
        Due.order("the old color", chart, 1, 0, 1);
        Due.order("the new color", chart, 2, 0, 3, 2, 1);
        Due.order("a third color", chart, 3, 1, 2, 0);
    }

    private static void emptyingMakesOneOrderFirst() {
        StitchChart chart = threeMoved();
        chart.setCell(4, 0, 0);
        Due.order("the old color", chart, 1, 0, 1);
        Due.order("a second color", chart, 2, 1, 2, 0);
        chart.setCell(4, 0, 4);
        Due.order("the order of an empty cell's neighbors", chart, 2, 1, 2, 0);
        Due.order("the new color", chart, 4, 0);
    }

    private static void theSameColorLeavesTheOrder() {
        StitchChart chart = threeMoved();
        chart.setCell(0, 0, 1);
        chart.setCell(1, 0, 0);
        chart.fill(2, 1, 1, 1, 2);
        chart.fill(1, 0, 1, 3, 0);
        for (int color = 1; color <= 3; color++) {
            Due.order("color " + color + " set to itself", chart, color, 1, 2, 0);
        }
    }

    private static void fillMakesOrdersOfOldColorsFirst() {
        StitchChart chart = threeMoved();
        chart.fill(0, 0, 1, 2, 4);
        Due.order("the first old color", chart, 1, 0, 1);
        Due.order("the second old color", chart, 2, 0, 1);
        Due.order("a color that has no part", chart, 3, 1, 2, 0);
        Due.order("the new color", chart, 4, 0, 1);
    }

    private static void mergingMakesOrdersFirst() {
        StitchChart chart = Due.chart("a.a.ab", "......", "b.b...", "......", "c.c.c.");
        for (int color = 1; color <= 3; color++) {
            chart.moveRun(color, 0, 2);
        }
        // only 5, 0 and 4, 0 have a neighbor; they change their colors
        Due.be("merge(1)", chart.merge(1), 2);
        Due.order("the order of the one", chart, 1, 0, 1, 2);
        Due.order("the order of the other", chart, 2, 0, 2, 1);
        Due.order("a color that has no part", chart, 3, 1, 2, 0);
    }

    private static void mergingThereAndBackMakesOrdersFirst() {
        StitchChart chart = Due.chart("a.a.ab", "......", "b.b...", "......", "c.c.c.");
        for (int color = 1; color <= 3; color++) {
            chart.moveRun(color, 0, 2);
        }
        Due.be("merge(2)", chart.merge(2), 4);
        Due.cells("there and back", chart, "a.a.ab", "......", "b.b...", "......", "c.c.c.");
        Due.order("the order of the one", chart, 1, 0, 1, 2);
        Due.order("the order of the other", chart, 2, 0, 2, 1);
        Due.order("a color that has no part", chart, 3, 1, 2, 0);
    }

    private static void refusedAndOtherCallsLeaveTheOrder() {
        StitchChart chart = threeMoved();
        chart.setCell(0, 0, 7);
        chart.setCell(5, 0, 2);
        chart.fill(0, 0, 6, 1, 2);
        chart.fill(0, 0, 5, 3, 7);
        chart.merge(0);
        chart.reset(0, 3);
        chart.setThread(0, 0);
        chart.setPages(4, 4, 0);
        chart.outline(1);
        chart.firstOrder(4);
        for (int color = 1; color <= 3; color++) {
            Due.order("color " + color + " after other calls", chart, color, 1, 2, 0);
        }
    }

    private static void shortenWithoutRuns() {
        Due.be("no runs", new StitchChart().shorten(6), 0);
        Due.be("no runs any more", emptied().shorten(1), 0);
    }

    private static void shortenOfOneAndTwoRuns() {
        Due.be("one run", Due.chart("f").shorten(6), 0);
        StitchChart two = Due.chart("f.f");
        Due.be("two runs", two.shorten(6), 0);
        two.moveRun(6, 0, 1);
        Due.be("two runs the other way", two.shorten(6), 0);
        Due.order("two runs the other way", two, 6, 1, 0);
    }

    private static void shortenMovesToTheLastPlace() {
        StitchChart chart = Due.chart("a.a.a");
        chart.moveRun(1, 2, 0);
        // 2 0 1 and 0 2 1 are both 60 long
        Due.be("shorten of 2 0 1", chart.shorten(1), 1);
        Due.order("of 2 0 1", chart, 1, 0, 1, 2);
    }

    private static void shortenMovesToTheFirstPlace() {
        StitchChart chart = Due.chart("a.a.a.a.a");
        chart.moveRun(1, 0, 4);
        Due.be("shorten of 1 2 3 4 0", chart.shorten(1), 1);
        Due.order("of 1 2 3 4 0", chart, 1, 0, 1, 2, 3, 4);
    }

    private static void shortenMakesNoMoveThatSavesNothing() {
        StitchChart chart = Due.chart("a.a.a.a");
        chart.moveRun(1, 0, 3);
        chart.setThread(0, 200);
        Due.be("all orders cost the same", chart.shorten(1), 0);
        Due.order("all orders cost the same", chart, 1, 1, 2, 3, 0);
        chart.setThread(1000, 200);
        chart.firstOrder(1);
        Due.be("the shortest order", chart.shorten(1), 0);
        Due.order("the shortest order", chart, 1, 0, 1, 2, 3);
    }

    private static void shortenGoesOnWithTheNextPlaceAfterAMove() {
        StitchChart chart = Due.chart("a.a.a.a");
        chart.setThread(20, 1);
        // new starts cost 2: 0 1 2 3 becomes 1 0 2 3 by j = 1; 1 lies at 0 then, and 0 2 1 3 follows by j = 2
        Due.be("shorten", chart.shorten(1), 2);
        Due.order("after both moves", chart, 1, 0, 2, 1, 3);
    }

    private static void shortenIsRepeatedUntilNothingMoves() {
        StitchChart chart = Due.chart("a.a.a.a.a");
        chart.moveRun(1, 4, 2);
        Due.be("shorten of 0 1 4 2 3", chart.shorten(1), 3);
        Due.order("after both passes", chart, 1, 0, 1, 2, 3, 4);
        Due.be("shorten again", chart.shorten(1), 0);
    }

    private static void shortenOfTheGreatestNumberOfRuns() {
        StitchChart chart = striped(6);
        Due.be("shorten of the first order", chart.shorten(6), 0);
        chart.moveRun(6, 100, 200);
        int thread = chart.count(6, 3);
        int moves = chart.shorten(6);
        Due.be("moves are made", moves > 0 ? 1 : 0, 1);
        Due.be("they make the thread less", chart.count(6, 3) < thread ? 1 : 0, 1);
        Due.be("shorten again", chart.shorten(6), 0);
        chart.setCell(23, 23, 6);
        Due.be("runs after one is longer", chart.count(6, 2), 288);
    }
}
