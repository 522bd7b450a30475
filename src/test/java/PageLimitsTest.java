/** Promises 23 to 27 where they end: a test for each sentence of "Pages" that names a limit. */
public final class PageLimitsTest {
    private static final int MOST = Integer.MAX_VALUE;

    public static void main(String[] args) {
        layouts();
        properties();
        belonging();
        threads();
        Due.end();
    }

    private static void layouts() {
        pagesAreAtFirst8By6WithAnOverlapOf1();
        setPagesTakesItsLimits();
        setPagesRefusesWhatIsOutOfRange();
        aChartAsWideAsAPageHasOneColumn();
        aPageThatReachesTheEndIsTheLast();
        aChartSmallerThanAPageHasOnePage();
        theMostPages();
        pagesFollowTheChartsSides();
        pagesFollowTheColumnsMinusTheOverlap();
    }

    private static void properties() {
        propertiesOfTheOnlyPage();
        propertiesOfTheLastPage();
        aPageBehindTheLastIsUnknown();
        pageRefusesPropertiesLast();
        columnsOutsideOfTheChartDoNotCount();
        repeatedStitchesAreNotEmpty();
        withoutAnOverlapNothingIsRepeated();
        aCellMayBeRepeatedOnSeveralPages();
    }

    private static void belonging() {
        pageOfTheEndsOfTheChart();
        pageOfUnknownCells();
        anOverlapBelongsToTheLowerPage();
        aRunBelongsToThePageOfItsBegin();
        onPageRefusesColorsAndProperties();
        onPageOfUnknownPages();
        onPageTakesEachColorAndAllTogether();
    }

    private static void threads() {
        threadOfAColorWithoutRuns();
        threadOfASingleRun();
        theTailsBelongToTheFirstAndTheLastRun();
        aPageWithoutBeginsHasTheStitchesOnly();
        aCostBelongsToThePageOfTheLaterRun();
        newStartsOnAPage();
        allPagesTogetherAreTheChart();
    }

    private static StitchChart with(int width, int height, int columns, int lines, int overlap) {
        StitchChart chart = new StitchChart();
        chart.reset(width, height);
        chart.setPages(columns, lines, overlap);
        return chart;
    }

    private static void duePage(StitchChart chart, int page, int... due) {
        for (int what = 0; what < due.length; what++) {
            Due.be("page(" + page + ", " + what + ")", chart.page(page, what), due[what]);
        }
    }

    private static void dueOnPage(StitchChart chart, int page, int color, int... due) {
        for (int what = 0; what < due.length; what++) {
            Due.be("onPage(" + page + ", " + color + ", " + what + ")", chart.onPage(page, color, what), due[what]);
        }
    }

    private static void pagesAreAtFirst8By6WithAnOverlapOf1() {
        StitchChart chart = new StitchChart();
        Due.be("pages() at first", chart.pages(), 4);
        duePage(chart, 0, 0, 0, 8, 6, 48, 0);
        duePage(chart, 3, 7, 5, 3, 3, 4, 0);
        chart.reset(24, 24);
        Due.be("pages() of 24 by 24", chart.pages(), 4 * 5);
        duePage(chart, 19, 21, 20, 3, 4, 2 * 3, 0);
    }

    private static void setPagesTakesItsLimits() {
        StitchChart chart = new StitchChart();
        chart.reset(24, 24);
        Due.be("setPages(4, 4, 0)", chart.setPages(4, 4, 0), 36);
        Due.be("setPages(4, 4, 3)", chart.setPages(4, 4, 3), 441);
        Due.be("setPages(24, 24, 0)", chart.setPages(24, 24, 0), 1);
        Due.be("setPages(24, 24, 3)", chart.setPages(24, 24, 3), 1);
        Due.be("setPages(4, 24, 3)", chart.setPages(4, 24, 3), 21);
        Due.be("setPages(24, 4, 0)", chart.setPages(24, 4, 0), 6);
    }

    private static void setPagesRefusesWhatIsOutOfRange() {
        StitchChart chart = new StitchChart();
        for (int shown : Due.outside(4, 24)) {
            Due.be("columns " + shown, chart.setPages(shown, 4, 0), StitchChart.BAD_VALUE);
            Due.be("lines " + shown, chart.setPages(4, shown, 0), StitchChart.BAD_VALUE);
        }
        for (int overlap : Due.outside(0, 3)) {
            Due.be("overlap " + overlap, chart.setPages(24, 24, overlap), StitchChart.BAD_VALUE);
        }
        for (int small = 0; small < 4; small++) {
            Due.be("columns " + small, chart.setPages(small, 24, 0), StitchChart.BAD_VALUE);
            Due.be("lines " + small, chart.setPages(24, small, 0), StitchChart.BAD_VALUE);
        }
        Due.be("pages() as at first", chart.pages(), 4);
        duePage(chart, 3, 7, 5, 3, 3, 4, 0);
    }

    private static void aChartAsWideAsAPageHasOneColumn() {
        for (int shown = 4; shown <= 24; shown++) {
            for (int overlap = 0; overlap <= 3; overlap++) {
                String of = " of " + shown + " with an overlap of " + overlap;
                Due.be("as wide as a page" + of, with(shown, 1, shown, 4, overlap).pages(), 1);
                Due.be("as high as a page" + of, with(1, shown, 4, shown, overlap).pages(), 1);
                if (shown < 24) {
                    Due.be("one column more" + of, with(shown + 1, 1, shown, 4, overlap).pages(), 2);
                    Due.be("one line more" + of, with(1, shown + 1, 4, shown, overlap).pages(), 2);
                }
            }
        }
    }

    private static void aPageThatReachesTheEndIsTheLast() {
        // columns of 5 with an overlap of 2 end at 5, 8, 11, 14, 17, 20, 23 and 26
        int[] ends = {5, 8, 11, 14, 17, 20, 23, 26};
        for (int width = 1; width <= 24; width++) {
            int due = 1;
            while (ends[due - 1] < width) {
                due++;
            }
            Due.be("page columns of " + width, with(width, 1, 5, 4, 2).pages(), due);
            Due.be("page lines of " + width, with(1, width, 4, 5, 2).pages(), due);
        }
    }

    private static void aChartSmallerThanAPageHasOnePage() {
        for (int side = 1; side <= 4; side++) {
            for (int overlap = 0; overlap <= 3; overlap++) {
                StitchChart chart = with(side, side, 4, 4, overlap);
                Due.be("pages of " + side + " by " + side, chart.pages(), 1);
                duePage(chart, 0, 0, 0, side, side, side * side, 0);
            }
        }
        Due.be("one cell with the greatest page", with(1, 1, 24, 24, 3).pages(), 1);
    }

    private static void theMostPages() {
        StitchChart chart = with(24, 24, 4, 4, 3);
        chart.fill(0, 0, 24, 24, 6);
        Due.be("pages()", chart.pages(), 441);
        duePage(chart, 0, 0, 0, 4, 4, 16, 0);
        duePage(chart, 20, 20, 0, 4, 4, 4, 12);
        duePage(chart, 21, 0, 1, 4, 4, 4, 12);
        duePage(chart, 440, 20, 20, 4, 4, 1, 15);
        Due.be("page behind the last", chart.page(441, 0), StitchChart.UNKNOWN);
        Due.be("pageOf(23, 23)", chart.pageOf(23, 23), 440);
    }

    private static void pagesFollowTheChartsSides() {
        StitchChart chart = with(24, 24, 4, 4, 0);
        Due.be("24 by 24", chart.pages(), 36);
        chart.reset(5, 24);
        Due.be("5 by 24", chart.pages(), 12);
        chart.reset(24, 5);
        Due.be("24 by 5", chart.pages(), 12);
        duePage(chart, 11, 20, 4, 4, 1, 4, 0);
        chart.reset(1, 1);
        Due.be("1 by 1", chart.pages(), 1);
        Due.be("the second page of 1 by 1", chart.page(1, 0), StitchChart.UNKNOWN);
    }

    private static void pagesFollowTheColumnsMinusTheOverlap() {
        int[] pagesAcross = {4, 5, 6, 7};
        for (int overlap = 0; overlap <= 3; overlap++) {
            StitchChart chart = with(24, 24, 6, 5, overlap);
            int across = pagesAcross[overlap];
            for (int column = 0; column < across; column++) {
                Due.be("x of page " + column, chart.page(column, 0), column * (6 - overlap));
                Due.be("y of page " + column, chart.page(column, 1), 0);
            }
            Due.be("x of the next page", chart.page(across, 0), 0);
            Due.be("y of the next page", chart.page(across, 1), 5 - overlap);
        }
    }

    private static void propertiesOfTheOnlyPage() {
        duePage(with(1, 1, 4, 4, 3), 0, 0, 0, 1, 1, 1, 0);
        duePage(with(24, 24, 24, 24, 3), 0, 0, 0, 24, 24, 576, 0);
        duePage(with(24, 1, 24, 4, 0), 0, 0, 0, 24, 1, 24, 0);
        duePage(with(1, 24, 4, 24, 0), 0, 0, 0, 1, 24, 24, 0);
    }

    private static void propertiesOfTheLastPage() {
        StitchChart chart = with(10, 9, 4, 4, 1);
        chart.fill(0, 0, 10, 9, 1);
        duePage(chart, 8, 6, 6, 4, 3, 3 * 2, 12 - 6);
        duePage(chart, 2, 6, 0, 4, 4, 3 * 4, 4);
        duePage(chart, 6, 0, 6, 4, 3, 4 * 2, 4);
    }

    private static void aPageBehindTheLastIsUnknown() {
        StitchChart chart = new StitchChart();
        Due.be("the last page", chart.page(3, 0), 7);
        for (int page : Due.outside(0, 3)) {
            for (int what : new int[] {0, 5, -1, 6, MOST}) {
                Due.be("page(" + page + ", " + what + ")", chart.page(page, what), StitchChart.UNKNOWN);
            }
        }
    }

    private static void pageRefusesPropertiesLast() {
        StitchChart chart = new StitchChart();
        for (int what : Due.outside(0, 5)) {
            for (int page = 0; page < 4; page++) {
                Due.be("page(" + page + ", " + what + ")", chart.page(page, what), StitchChart.BAD_VALUE);
            }
        }
    }

    private static void columnsOutsideOfTheChartDoNotCount() {
        for (int width = 5; width <= 8; width++) {
            StitchChart across = with(width, 3, 4, 5, 0);
            duePage(across, 0, 0, 0, 4, 3, 12, 0);
            duePage(across, 1, 4, 0, width - 4, 3, 3 * (width - 4), 0);
            StitchChart down = with(3, width, 5, 4, 0);
            duePage(down, 0, 0, 0, 3, 4, 12, 0);
            duePage(down, 1, 0, 4, 3, width - 4, 3 * (width - 4), 0);
        }
    }

    private static void repeatedStitchesAreNotEmpty() {
        StitchChart chart = with(7, 4, 4, 4, 1);
        Due.be("empty cells that are repeated", chart.page(1, 5), 0);
        for (int color = 1; color <= 6; color++) {
            chart.setCell(3, 3, color);
            Due.be("a stitch of " + color + " that is repeated", chart.page(1, 5), 1);
            Due.be("on its own page", chart.page(0, 5), 0);
        }
        chart.setCell(4, 3, 1);
        Due.be("a stitch of the page itself", chart.page(1, 5), 1);
        chart.setCell(2, 3, 1);
        Due.be("a stitch that the page does not show", chart.page(1, 5), 1);
    }

    private static void withoutAnOverlapNothingIsRepeated() {
        StitchChart chart = with(8, 8, 4, 4, 0);
        chart.fill(0, 0, 8, 8, 1);
        for (int page = 0; page < 4; page++) {
            Due.be("cells of page " + page, chart.page(page, 4), 16);
            Due.be("repeated on page " + page, chart.page(page, 5), 0);
        }
    }

    private static void aCellMayBeRepeatedOnSeveralPages() {
        StitchChart chart = with(7, 7, 4, 4, 3);
        chart.setCell(3, 3, 2);
        Due.be("pages()", chart.pages(), 16);
        Due.be("its page", chart.pageOf(3, 3), 0);
        Due.be("repeated on its page", chart.page(0, 5), 0);
        for (int page = 1; page < 16; page++) {
            Due.be("repeated on page " + page, chart.page(page, 5), 1);
            Due.be("stitches of page " + page, chart.onPage(page, 2, 0), 0);
        }
    }

    private static void pageOfTheEndsOfTheChart() {
        StitchChart chart = new StitchChart();
        Due.be("pageOf(0, 0)", chart.pageOf(0, 0), 0);
        Due.be("pageOf(9, 0)", chart.pageOf(9, 0), 1);
        Due.be("pageOf(0, 7)", chart.pageOf(0, 7), 2);
        Due.be("pageOf(9, 7)", chart.pageOf(9, 7), 3);
        StitchChart one = with(1, 1, 4, 4, 3);
        Due.be("pageOf(0, 0) of one cell", one.pageOf(0, 0), 0);
    }

    private static void pageOfUnknownCells() {
        StitchChart chart = new StitchChart();
        for (int x : Due.outside(0, 9)) {
            Due.be("pageOf(" + x + ", 0)", chart.pageOf(x, 0), StitchChart.UNKNOWN);
            Due.be("pageOf(" + x + ", 7)", chart.pageOf(x, 7), StitchChart.UNKNOWN);
        }
        for (int y : Due.outside(0, 7)) {
            Due.be("pageOf(0, " + y + ")", chart.pageOf(0, y), StitchChart.UNKNOWN);
            Due.be("pageOf(9, " + y + ")", chart.pageOf(9, y), StitchChart.UNKNOWN);
        }
    }

    private static void anOverlapBelongsToTheLowerPage() {
        int[] pagesAcross = {2, 2, 3, 3};
        for (int overlap = 0; overlap <= 3; overlap++) {
            StitchChart chart = with(9, 9, 5, 5, overlap);
            int across = pagesAcross[overlap];
            String of = " with an overlap of " + overlap;
            Due.be("the last of the first page" + of, chart.pageOf(4, 4), 0);
            Due.be("the first behind it" + of, chart.pageOf(5, 4), 1);
            Due.be("the first below it" + of, chart.pageOf(4, 5), across);
            Due.be("the first behind and below it" + of, chart.pageOf(5, 5), across + 1);
        }
    }

    private static void aRunBelongsToThePageOfItsBegin() {
        StitchChart chart = with(12, 1, 4, 4, 1);
        chart.fill(3, 0, 9, 1, 6);
        // its begin is repeated on page 1, and it goes on to page 3
        dueOnPage(chart, 0, 6, 1, 1, 48 + 60);
        dueOnPage(chart, 1, 6, 3, 0, 144);
        dueOnPage(chart, 2, 6, 3, 0, 144);
        dueOnPage(chart, 3, 6, 2, 0, 96);
    }

    private static void onPageRefusesColorsAndProperties() {
        StitchChart chart = new StitchChart();
        for (int color : Due.outside(0, 6)) {
            Due.be("color " + color, chart.onPage(3, color, 0), StitchChart.BAD_VALUE);
            Due.be("color " + color + " with a wrong property", chart.onPage(3, color, 3), StitchChart.BAD_VALUE);
        }
        for (int what : Due.outside(0, 2)) {
            for (int color = 0; color <= 6; color++) {
                Due.be("property " + what, chart.onPage(0, color, what), StitchChart.BAD_VALUE);
            }
        }
    }

    private static void onPageOfUnknownPages() {
        StitchChart chart = new StitchChart();
        for (int page : Due.outside(0, 3)) {
            Due.be("onPage(" + page + ", 0, 0)", chart.onPage(page, 0, 0), StitchChart.UNKNOWN);
            Due.be("onPage(" + page + ", 7, 0)", chart.onPage(page, 7, 0), StitchChart.UNKNOWN);
            Due.be("onPage(" + page + ", -1, 3)", chart.onPage(page, -1, 3), StitchChart.UNKNOWN);
        }
    }

    private static void onPageTakesEachColorAndAllTogether() {
        StitchChart chart = Due.chart("abcdef..aabbccddee");
        for (int color = 1; color <= 6; color++) {
            dueOnPage(chart, 0, color, 1, 1, color == 6 ? 48 + 60 : 48 + 30);
        }
        dueOnPage(chart, 0, 0, 6, 6, 6 * 48 + 5 * 30 + 60);
        dueOnPage(chart, 1, 0, 7, 4, 7 * 48 + 4 * 30 + 60 + 60 + 60 + 60);
    }

    private static void threadOfAColorWithoutRuns() {
        StitchChart chart = new StitchChart();
        chart.setThread(0, 200);
        for (int page = 0; page < 4; page++) {
            for (int color = 0; color <= 6; color++) {
                dueOnPage(chart, page, color, 0, 0, 0);
            }
        }
    }

    private static void threadOfASingleRun() {
        for (int tail : new int[] {0, 200}) {
            StitchChart chart = new StitchChart();
            chart.setThread(0, tail);
            chart.setCell(9, 7, 6);
            dueOnPage(chart, 3, 6, 1, 1, 48 + 2 * tail);
            dueOnPage(chart, 3, 0, 1, 1, 48 + 2 * tail);
            dueOnPage(chart, 0, 6, 0, 0, 0);
            dueOnPage(chart, 3, 5, 0, 0, 0);
        }
    }

    private static void theTailsBelongToTheFirstAndTheLastRun() {
        StitchChart chart = with(12, 1, 4, 4, 0);
        chart.setThread(1000, 7);
        chart.setCell(0, 0, 1);
        chart.setCell(4, 0, 1);
        chart.setCell(8, 0, 1);
        dueOnPage(chart, 0, 1, 1, 1, 48 + 7);
        dueOnPage(chart, 1, 1, 1, 1, 48 + 40);
        dueOnPage(chart, 2, 1, 1, 1, 48 + 40 + 7);
        chart.moveRun(1, 1, 0);
        dueOnPage(chart, 0, 1, 1, 1, 48 + 40);
        dueOnPage(chart, 1, 1, 1, 1, 48 + 7);
        dueOnPage(chart, 2, 1, 1, 1, 48 + 80 + 7);
        chart.moveRun(1, 0, 2);
        dueOnPage(chart, 0, 1, 1, 1, 48 + 7);
        dueOnPage(chart, 1, 1, 1, 1, 48 + 40 + 7);
        dueOnPage(chart, 2, 1, 1, 1, 48 + 80);
    }

    private static void aPageWithoutBeginsHasTheStitchesOnly() {
        StitchChart chart = with(8, 1, 4, 4, 0);
        chart.fill(0, 0, 8, 1, 1);
        dueOnPage(chart, 0, 1, 4, 1, 192 + 60);
        dueOnPage(chart, 1, 1, 4, 0, 192);
    }

    private static void aCostBelongsToThePageOfTheLaterRun() {
        StitchChart chart = with(5, 2, 4, 4, 0);
        chart.setCell(0, 0, 1);
        chart.setCell(4, 0, 1);
        chart.setCell(0, 1, 1);
        Due.order("the first order", chart, 1, 0, 2, 1);
        dueOnPage(chart, 0, 1, 2, 2, 96 + 30 + 10);
        dueOnPage(chart, 1, 1, 1, 1, 48 + 50 + 30);
    }

    private static void newStartsOnAPage() {
        StitchChart chart = with(5, 1, 4, 4, 0);
        chart.setCell(0, 0, 1);
        chart.setCell(4, 0, 1);
        chart.setThread(40, 3);
        dueOnPage(chart, 1, 1, 1, 1, 48 + 40 + 3);
        chart.setThread(39, 3);
        dueOnPage(chart, 1, 1, 1, 1, 48 + 6 + 3);
        dueOnPage(chart, 0, 1, 1, 1, 48 + 3);
    }

    private static void allPagesTogetherAreTheChart() {
        for (int overlap = 0; overlap <= 3; overlap++) {
            StitchChart chart = Due.chart("aabbcca.f", "a.b.c.d.e", "fffffffff", "abcdefabc", ".a.a.a.a.");
            chart.setPages(4, 4, overlap);
            int[] sums = new int[4];
            for (int page = 0; page < chart.pages(); page++) {
                sums[3] += chart.page(page, 4);
                for (int what = 0; what < 3; what++) {
                    sums[what] += chart.onPage(page, 0, what);
                }
            }
            String of = " with an overlap of " + overlap;
            Due.be("stitches" + of, sums[0], chart.count(0, 0));
            Due.be("runs" + of, sums[1], chart.count(0, 2));
            Due.be("thread" + of, sums[2], chart.count(0, 3));
            Due.be("cells" + of, sums[3], 45);
        }
    }
}
