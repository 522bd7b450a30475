/** Promises 3, 4 and 5 where they end: a test for each sentence of "Text" that names a limit. */
public final class TextLimitsTest {
    public static void main(String[] args) {
        typing();
        texts();
        faults();
        misfits();
        changes();
        Due.end();
    }

    private static void typing() {
        theTextIsEmptyAtFirst();
        the120thCharacterFitsAndThe121stDoesNot();
        aRefusedCharacterIsNotKept();
        anyCharacterIsTyped();
        clearingAnEmptyTextAnswers0();
        clearingAFullTextMakesRoom();
        clearedCharactersAreNotReadAgain();
    }

    private static void texts() {
        theEmptyTextIsOneEmptyLine();
        linesMayBeEmpty();
        lettersAreAToFAndTheDot();
        numbersAre1To24();
        numbersMayBeginWith0();
        aMissingNumberIs1();
        all120CharactersAreRead();
    }

    private static void faults() {
        charactersNextToTheAllowedOnesAreFaults();
        charactersThatWrapAroundAreFaults();
        aThirdDigitIsTheFault();
        aTextThatEndsBehindANumberEndsTooEarly();
        whatMayNotFollowANumberIsTheFault();
        aNumberOutOfRangeIsAFaultAtItsFirstDigit();
        aNumberOutOfRangeIsFoundAtTheEndOfTheText();
        aNumberOutOfRangeIsFoundBeforeAnyCharacter();
        aNumberOutOfRangeIsNotFoundBeforeAThirdDigit();
        theFirstFaultCounts();
        faultsAtTheLastPlaces();
    }

    private static void misfits() {
        aLineAsWideAsTheChartFits();
        aLineOneCellTooLongDoesNotFit();
        theLongestLineCounts();
        emptyCellsMakeALineLonger();
        asManyLinesAsTheHeightFit();
        oneLineTooManyDoesNotFit();
        emptyLinesCountToo();
        aFaultComesBeforeAMisfit();
        theChartsOwnSidesCount();
    }

    private static void changes() {
        onlyChangesAreCounted();
        cellsThatTheTextDoesNotTellStay();
        dotsEmptyCells();
        theTextStaysWhenItIsRead();
        theTextStaysWhenItHasAFault();
        aFaultDoesNotReachIntoTheNextReading();
        aFaultChangesNoCell();
        readingMakesOrdersFirst();
    }

    private static StitchChart with(int width, int height, String text) {
        StitchChart chart = new StitchChart();
        chart.reset(width, height);
        Due.type(chart, text);
        return chart;
    }

    private static void reads(int width, int height, String text, int answer) {
        Due.be("readChart() of \"" + text + "\" on " + width + " by " + height,
                with(width, height, text).readChart(), answer);
    }

    /** The fault of a text on the greatest chart, where no text of such a length is a misfit. */
    private static void faultAt(String text, int fault) {
        reads(24, 24, text, -100 - fault);
    }

    private static String fullText() {
        return ("a".repeat(24) + "/").repeat(4) + "a".repeat(20);
    }

    private static void theTextIsEmptyAtFirst() {
        Due.be("clearText() at first", new StitchChart().clearText(), 0);
        Due.be("type at first", new StitchChart().type('a'), 1);
        Due.be("readChart() at first", new StitchChart().readChart(), 0);
    }

    private static void the120thCharacterFitsAndThe121stDoesNot() {
        StitchChart chart = new StitchChart();
        for (int length = 1; length <= 120; length++) {
            Due.be("type of character " + length, chart.type('.'), length);
        }
        Due.be("type of character 121", chart.type('.'), StitchChart.FULL);
        Due.be("type of character 122", chart.type('?'), StitchChart.FULL);
        Due.be("clearText()", chart.clearText(), 120);
    }

    private static void aRefusedCharacterIsNotKept() {
        StitchChart chart = with(24, 24, fullText());
        Due.be("type when full", chart.type('?'), StitchChart.FULL);
        Due.be("type when full, once more", chart.type('b'), StitchChart.FULL);
        Due.be("readChart() of a full text", chart.readChart(), 116);
        Due.be("its first cell", chart.cell(0, 0), 1);
        Due.be("its last cell", chart.cell(19, 4), 1);
        Due.be("the cell behind it", chart.cell(20, 4), 0);
        Due.be("clearText()", chart.clearText(), 120);
    }

    private static void anyCharacterIsTyped() {
        StitchChart chart = new StitchChart();
        char[] odd = {0, 1, '\n', ' ', '/', '?', 127, 128, 255, 256, 0x7fff, 0x8000, 0xd800, 0xdc00, 0xffff};
        for (int index = 0; index < odd.length; index++) {
            Due.be("type of character number " + (int) odd[index], chart.type(odd[index]), index + 1);
        }
        Due.be("the first is a fault", chart.readChart(), -100);
        Due.be("clearText()", chart.clearText(), odd.length);
    }

    private static void clearingAnEmptyTextAnswers0() {
        StitchChart chart = new StitchChart();
        chart.type('a');
        Due.be("clearText()", chart.clearText(), 1);
        Due.be("clearText() again", chart.clearText(), 0);
        Due.be("readChart() then", chart.readChart(), 0);
    }

    private static void clearingAFullTextMakesRoom() {
        StitchChart chart = with(24, 24, fullText());
        Due.be("clearText()", chart.clearText(), 120);
        for (int length = 1; length <= 120; length++) {
            Due.be("type of character " + length, chart.type('/'), length);
        }
        Due.be("type when full again", chart.type('/'), StitchChart.FULL);
    }

    private static void clearedCharactersAreNotReadAgain() {
        StitchChart chart = with(10, 8, "bbbb");
        chart.clearText();
        chart.type('a');
        Due.be("readChart()", chart.readChart(), 1);
        Due.cells("after the shorter text", chart, "a...");
        chart.clearText();
        Due.be("readChart() of the empty text", chart.readChart(), 0);
        Due.cells("after the empty text", chart, "a...");
    }

    private static void theEmptyTextIsOneEmptyLine() {
        reads(1, 1, "", 0);
        reads(24, 24, "", 0);
        StitchChart chart = Due.chart("f");
        Due.be("readChart() of nothing", chart.readChart(), 0);
        Due.cells("after nothing", chart, "f");
    }

    private static void linesMayBeEmpty() {
        reads(1, 2, "/", 0);
        StitchChart first = with(2, 3, "/ab");
        Due.be("an empty first line", first.readChart(), 2);
        Due.cells("an empty first line", first, "..", "ab", "..");
        StitchChart middle = with(2, 3, "ab//cd");
        Due.be("an empty line between", middle.readChart(), 4);
        Due.cells("an empty line between", middle, "ab", "..", "cd");
        StitchChart last = with(2, 3, "ab/c/");
        Due.be("an empty last line", last.readChart(), 3);
        Due.cells("an empty last line", last, "ab", "c.", "..");
    }

    private static void lettersAreAToFAndTheDot() {
        String letters = "abcdef";
        for (int index = 0; index < 6; index++) {
            StitchChart chart = with(1, 1, letters.substring(index, index + 1));
            Due.be("reading " + letters.charAt(index), chart.readChart(), 1);
            Due.be("color of " + letters.charAt(index), chart.cell(0, 0), index + 1);
        }
        StitchChart dot = with(1, 1, ".");
        dot.setCell(0, 0, 6);
        Due.be("reading a dot", dot.readChart(), 1);
        Due.be("color of a dot", dot.cell(0, 0), 0);
    }

    private static void numbersAre1To24() {
        for (int number = 1; number <= 24; number++) {
            reads(24, 1, number + "f", number);
        }
        for (int number = 25; number <= 99; number++) {
            faultAt(number + "f", 0);
        }
        faultAt("0f", 0);
        faultAt("00f", 0);
    }

    private static void numbersMayBeginWith0() {
        for (int number = 1; number <= 9; number++) {
            reads(9, 1, "0" + number + "a", number);
        }
    }

    private static void aMissingNumberIs1() {
        StitchChart chart = with(6, 1, "3ab02c");
        Due.be("readChart()", chart.readChart(), 6);
        Due.cells("after 3ab02c", chart, "aaabcc");
    }

    private static void all120CharactersAreRead() {
        StitchChart chart = with(24, 24, fullText());
        Due.be("readChart()", chart.readChart(), 116);
        Due.be("the cell of the last character", chart.cell(19, 4), 1);
    }

    private static void charactersNextToTheAllowedOnesAreFaults() {
        char[] wrong = {'`', 'g', 'A', 'F', 'G', '@', '-', ',', ':', ';', ' ', '\n', 0, 127, 255};
        for (char sign : wrong) {
            faultAt("" + sign, 0);
            faultAt("ab" + sign + "a", 2);
            faultAt("a/" + sign, 2);
            faultAt("2" + sign + "a", 1);
            faultAt("24" + sign, 2);
        }
    }

    private static void charactersThatWrapAroundAreFaults() {
        for (char sign : new char[] {'a', 'f', '.', '/', '0', '1', '9'}) {
            faultAt("" + (char) (sign + 256), 0);
            faultAt("a" + (char) (sign + 0x8000), 1);
            faultAt("1" + (char) (sign + 0xff00), 1);
        }
        faultAt("" + (char) 0x0661 + "a", 0);
        faultAt("" + (char) 0xff11 + "a", 0);
    }

    private static void aThirdDigitIsTheFault() {
        faultAt("123", 2);
        faultAt("123a", 2);
        faultAt("1234", 2);
        faultAt("012a", 2);
        faultAt("001a", 2);
        faultAt("a/b111c", 5);
    }

    private static void aTextThatEndsBehindANumberEndsTooEarly() {
        faultAt("1", 1);
        faultAt("9", 1);
        faultAt("10", 2);
        faultAt("24", 2);
        faultAt("01", 2);
        faultAt("ab3", 3);
        faultAt("ab/24", 5);
    }

    private static void whatMayNotFollowANumberIsTheFault() {
        faultAt("1/", 1);
        faultAt("24/a", 2);
        faultAt("a/05/", 4);
        faultAt("3?", 1);
        faultAt("3 a", 1);
    }

    private static void aNumberOutOfRangeIsAFaultAtItsFirstDigit() {
        faultAt("0a", 0);
        faultAt("00a", 0);
        faultAt("25a", 0);
        faultAt("99a", 0);
        faultAt("ab0c", 2);
        faultAt("ab00c", 2);
        faultAt("ab25c", 2);
        faultAt("a//2b30.", 5);
        faultAt("10a0a", 3);
        faultAt("1a25a", 2);
    }

    private static void aNumberOutOfRangeIsFoundAtTheEndOfTheText() {
        faultAt("0", 0);
        faultAt("00", 0);
        faultAt("25", 0);
        faultAt("ab0", 2);
        faultAt("ab99", 2);
        faultAt("a/00", 2);
    }

    private static void aNumberOutOfRangeIsFoundBeforeAnyCharacter() {
        faultAt("0/", 0);
        faultAt("25/", 0);
        faultAt("0?", 0);
        faultAt("00?", 0);
        faultAt("a25g", 1);
        faultAt("a99" + (char) 0, 1);
    }

    private static void aNumberOutOfRangeIsNotFoundBeforeAThirdDigit() {
        faultAt("250", 2);
        faultAt("000", 2);
        faultAt("0000", 2);
        faultAt("999a", 2);
        faultAt("a253/", 3);
    }

    private static void theFirstFaultCounts() {
        faultAt("g25a", 0);
        faultAt("25ag", 0);
        faultAt("a?0", 1);
        faultAt("0a?", 0);
        faultAt("a1/123", 2);
        faultAt("a123/0", 3);
        faultAt("?2", 0);
    }

    private static void faultsAtTheLastPlaces() {
        faultAt("/".repeat(119) + "?", 119);
        faultAt("/".repeat(119) + "3", 120);
        faultAt("/".repeat(119) + "0", 119);
        faultAt("/".repeat(118) + "25", 118);
        faultAt("/".repeat(118) + "3/", 119);
        faultAt("/".repeat(117) + "123", 119);
        faultAt("/".repeat(120), 120);
    }

    private static void aLineAsWideAsTheChartFits() {
        reads(1, 1, "a", 1);
        reads(1, 1, "1a", 1);
        reads(10, 1, "10a", 10);
        reads(24, 1, "24a", 24);
        reads(24, 1, "a".repeat(24), 24);
        reads(24, 1, "23ab", 24);
        reads(24, 2, "24a/24b", 48);
    }

    private static void aLineOneCellTooLongDoesNotFit() {
        reads(1, 1, "aa", -220);
        reads(1, 1, "2a", -220);
        reads(10, 1, "11a", -220);
        reads(23, 1, "24a", -220);
        reads(24, 1, "24ab", -220);
        reads(24, 1, "a".repeat(25), -220);
        reads(24, 1, "24a24a", -220);
    }

    private static void theLongestLineCounts() {
        reads(3, 3, "4a/a/a", -220);
        reads(3, 3, "a/4a/a", -220);
        reads(3, 3, "a/a/4a", -220);
        reads(3, 3, "3a/3b/3c", 9);
    }

    private static void emptyCellsMakeALineLonger() {
        reads(3, 1, "3.", 0);
        reads(3, 1, "4.", -220);
        reads(3, 1, "aaa.", -220);
        reads(3, 1, "...a", -220);
    }

    private static void asManyLinesAsTheHeightFit() {
        reads(1, 1, "a", 1);
        reads(1, 2, "a/b", 2);
        reads(1, 8, "a/a/a/a/a/a/a/a", 8);
        reads(1, 24, "/".repeat(23) + "a", 1);
    }

    private static void oneLineTooManyDoesNotFit() {
        reads(1, 1, "a/b", -220);
        reads(1, 7, "a/a/a/a/a/a/a/a", -220);
        reads(1, 24, "/".repeat(24) + "a", -220);
    }

    private static void emptyLinesCountToo() {
        reads(1, 1, "/", -220);
        reads(1, 1, "a/", -220);
        reads(1, 1, "/a", -220);
        reads(1, 2, "a//", -220);
        reads(1, 23, "/".repeat(23), -220);
        reads(1, 24, "/".repeat(23), 0);
        reads(1, 24, "/".repeat(24), -220);
    }

    private static void aFaultComesBeforeAMisfit() {
        reads(1, 1, "aa?", -102);
        reads(1, 1, "24a0a", -103);
        reads(1, 1, "//3", -103);
        reads(1, 1, "//////123", -108);
        reads(1, 1, "2a/3/", -104);
    }

    private static void theChartsOwnSidesCount() {
        StitchChart chart = with(3, 2, "3a/3a");
        Due.be("on 3 by 2", chart.readChart(), 6);
        chart.reset(2, 3);
        Due.be("on 2 by 3", chart.readChart(), -220);
        chart.reset(3, 1);
        Due.be("on 3 by 1", chart.readChart(), -220);
        chart.reset(24, 24);
        Due.be("on 24 by 24", chart.readChart(), 6);
    }

    private static void onlyChangesAreCounted() {
        StitchChart chart = with(4, 1, "aab.");
        chart.fill(0, 0, 3, 1, 1);
        Due.be("one of four", chart.readChart(), 1);
        Due.be("none again", chart.readChart(), 0);
        chart.fill(0, 0, 4, 1, 6);
        Due.be("all four", chart.readChart(), 4);
    }

    private static void cellsThatTheTextDoesNotTellStay() {
        StitchChart chart = with(3, 4, "b//cc");
        chart.fill(0, 0, 3, 4, 1);
        Due.be("readChart()", chart.readChart(), 3);
        Due.cells("other cells stay", chart, "baa", "aaa", "cca", "aaa");
    }

    private static void dotsEmptyCells() {
        StitchChart chart = with(4, 2, "a2.b/4.");
        chart.fill(0, 0, 4, 2, 1);
        Due.be("readChart()", chart.readChart(), 7);
        Due.cells("dots empty cells", chart, "a..b", "....");
    }

    private static void theTextStaysWhenItIsRead() {
        StitchChart chart = with(10, 8, "4a");
        chart.readChart();
        Due.be("type behind it", chart.type('b'), 3);
        Due.be("readChart() of 4ab", chart.readChart(), 1);
        Due.be("clearText()", chart.clearText(), 3);
    }

    private static void theTextStaysWhenItHasAFault() {
        StitchChart chart = with(10, 8, "4");
        Due.be("readChart() of 4", chart.readChart(), -101);
        Due.be("readChart() of 4 again", chart.readChart(), -101);
        Due.be("type behind it", chart.type('a'), 2);
        Due.be("readChart() of 4a", chart.readChart(), 4);
        Due.be("clearText()", chart.clearText(), 2);
    }

    private static void aFaultDoesNotReachIntoTheNextReading() {
        for (String fault : new String[] {"5", "12", "0", "25", "5?", "123", "11a", "a/3", "//////////"}) {
            StitchChart chart = with(10, 8, fault);
            Due.be("\"" + fault + "\" has a fault", chart.readChart() <= -100 ? 1 : 0, 1);
            chart.clearText();
            Due.type(chart, "a1b/2c");
            Due.be("readChart() after " + fault, chart.readChart(), 4);
            Due.cells("after " + fault, chart, "ab..", "cc..", "....");
        }
    }

    private static void aFaultChangesNoCell() {
        for (String fault : new String[] {"aaa/bb?", "aaa/11b", "aaa////////", "aaa3", "aa25", "aa25a", "aaa123a"}) {
            StitchChart chart = with(10, 8, fault);
            chart.fill(0, 0, 3, 1, 6);
            chart.fill(0, 2, 3, 1, 6);
            chart.moveRun(6, 0, 1);
            Due.be("\"" + fault + "\" has a fault", chart.readChart() <= -100 ? 1 : 0, 1);
            Due.cells("after " + fault, chart, "fff.", "....", "fff.");
            Due.order("order after " + fault, chart, 6, 1, 0);
        }
    }

    private static void readingMakesOrdersFirst() {
        StitchChart chart = Due.chart("a.a.a", "b.b.b", "c.c.c");
        for (int color = 1; color <= 3; color++) {
            chart.moveRun(color, 0, 2);
        }
        Due.type(chart, "a.a.a/b");
        Due.be("reading what is there", chart.readChart(), 0);
        Due.order("order of 1 stays", chart, 1, 1, 2, 0);
        chart.type('a');
        Due.be("reading one change", chart.readChart(), 1);
        Due.order("order of the new color", chart, 1, 0, 1, 2, 3);
        Due.order("order of a color that loses nothing", chart, 2, 1, 2, 0);
        chart.clearText();
        Due.type(chart, "//.");
        Due.be("emptying one", chart.readChart(), 1);
        Due.order("order of the old color", chart, 3, 0, 1);
        Due.order("order of a color that has no part", chart, 2, 1, 2, 0);
    }
}
