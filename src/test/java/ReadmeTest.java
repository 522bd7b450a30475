/** The example of README.md: its calls in their order, with the answers that stand beside them. */
public final class ReadmeTest {
    private ReadmeTest() {
    }

    public static void main(String[] args) {
        StitchChart chart = new StitchChart();
        chart.type('3');
        chart.type('a');
        Due.be("readChart()", chart.readChart(), 3);
        Due.be("setCell(9, 0, 1)", chart.setCell(9, 0, 1), 0);
        Due.be("count(1, 3)", chart.count(1, 3), 4 * 48 + 2 * 30 + 2 * 30);
        Due.be("runAt(1, 1)", chart.runAt(1, 1), 1);
        Due.be("moveRun(1, 1, 0)", chart.moveRun(1, 1, 0), 312);
        Due.be("isLone(9, 0)", chart.isLone(9, 0), 1);
        Due.be("outline(1)", chart.outline(1), 8 + 4);
        Due.be("backs(2)", chart.backs(2), 2);
        Due.be("pageOf(9, 0)", chart.pageOf(9, 0), 1);
        Due.be("onPage(1, 1, 2)", chart.onPage(1, 1, 2), 48 + 30);
        Due.be("setCell(10, 0, 1)", chart.setCell(10, 0, 1), StitchChart.UNKNOWN);
        Due.end();
    }
}
