/** Promises 3, 4 and 5: the text and reading it. */
public final class TextTest {
    public static void main(String[] args) {
        typeTakesAnyCharacterUntilFull();
        readSetsColors();
        readCountsChangesAndKeepsOthers();
        misplacedCharactersAreFaults();
        numbersOutOfRangeAreFaults();
        textsThatDoNotFitAreFaults();
        aFaultChangesNothing();
        Due.end();
    }

    private static void typeTakesAnyCharacterUntilFull() {
        StitchChart chart = new StitchChart();
        char[] odd = {0, 'Z', 255, 256, 65535, ' ', '/'};
        for (int length = 1; length <= 120; length++) {
            Due.be("type of character " + length, chart.type(odd[length % odd.length]), length);
        }
        Due.be("type when full", chart.type('a'), StitchChart.FULL);
        Due.be("type when full, again", chart.type('?'), StitchChart.FULL);
        Due.be("clearText()", chart.clearText(), 120);
        Due.be("clearText() again", chart.clearText(), 0);
        Due.be("type after clearing", chart.type('a'), 1);
    }

    private static void reads(String text, int answer) {
        StitchChart chart = new StitchChart();
        Due.type(chart, text);
        Due.be("readChart() of \"" + text + "\"", chart.readChart(), answer);
        Due.be("clearText() after \"" + text + "\"", chart.clearText(), text.length());
    }

    private static void readSetsColors() {
        StitchChart chart = new StitchChart();
        Due.type(chart, "abcdef/2.03b/10e//.a.1f");
        Due.be("readChart()", chart.readChart(), 6 + 3 + 10 + 2);
        Due.cells("after reading", chart, "abcdef....", "..bbb.....", "eeeeeeeeee", "..........", ".a.f......");
    }

    private static void readCountsChangesAndKeepsOthers() {
        StitchChart chart = new StitchChart();
        chart.fill(0, 0, 10, 8, 1);
        Due.type(chart, "a.b/3a");
        Due.be("readChart()", chart.readChart(), 2);
        Due.cells("others stay", chart, "a.baaaaaaa", "aaaaaaaaaa", "aaaaaaaaaa");
        Due.be("readChart() again", chart.readChart(), 0);
        Due.be("the text stays", chart.clearText(), 6);
        chart.moveRun(1, 0, 1);
        Due.be("reading nothing", chart.readChart(), 0);
        Due.be("order stays if nothing changes", chart.run(1, 0, 3), 1);
        Due.type(chart, "b");
        Due.be("reading a change", chart.readChart(), 1);
        Due.be("order is the first one again", chart.run(1, 0, 3), 0);
    }

    private static void misplacedCharactersAreFaults() {
        reads("", 0);
        reads("/", 0);
        reads("///////", 0);
        reads("g", -100);
        reads("A", -100);
        reads("a b", -101);
        reads("`", -100);
        reads("2", -101);
        reads("24", -102);
        reads("a/7", -103);
        reads("7/", -101);
        reads("7g", -101);
        reads("07-", -102);
        reads("123a", -102);
        reads("1234", -102);
        reads("ab-1", -102);
        reads("a" + (char) 0, -101);
        reads("a" + (char) (256 + 'a'), -101);
        reads("a" + (char) 0x661, -101);
        reads("/".repeat(119) + "3", -220);
        reads("/".repeat(118) + "3", -219);
    }

    private static void numbersOutOfRangeAreFaults() {
        reads("0", -100);
        reads("0a", -100);
        reads("00a", -100);
        reads("00", -100);
        reads("25", -100);
        reads("a25", -101);
        reads("a99b", -101);
        reads("ab/25/", -103);
        reads("ab/25?", -103);
        reads("0/", -100);
        reads("253", -102);
        reads("000", -102);
        reads("990a", -102);
        reads("1a0", -102);
        reads("24a", -220);
        reads("10a", 10);
        reads("01a", 1);
        reads("05b", 5);
    }

    private static void textsThatDoNotFitAreFaults() {
        reads("11a", -220);
        reads("10a.", -220);
        reads("9a.b/a", -220);
        reads("9a./9.b", 10);
        reads("////////", -220);
        reads("///////10f", 10);
        reads("///////11f", -220);
        reads("11ag", -103);
        reads("////////0a", -108);
        StitchChart chart = new StitchChart();
        chart.reset(24, 1);
        Due.type(chart, "24a");
        Due.be("24a on 24 columns", chart.readChart(), 24);
        chart.type('/');
        Due.be("24a/ on 1 line", chart.readChart(), -220);
    }

    private static void aFaultChangesNothing() {
        for (String text : new String[] {"aaa/bbg", "aaa/11b", "aaa////////", "aaa3", "aa25"}) {
            StitchChart chart = new StitchChart();
            Due.type(chart, text);
            Due.be("fault of " + text, chart.readChart() < 0 ? 1 : 0, 1);
            Due.be("stitches after " + text, chart.count(0, 0), 0);
        }
    }
}
