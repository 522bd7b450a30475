import java.util.ArrayList;
import java.util.List;
import java.util.function.ToIntFunction;

/**
 * "Errors": a call that reports an error or NONE changes nothing. Of two charts that are made alike, one gets the
 * refused call; all that can be asked of them must be the same then. Each question is put to new charts, as an
 * object is used for 512 calls at most.
 */
public final class RefusedCallTest {
    private static final int UNKNOWN = StitchChart.UNKNOWN;
    private static final int BAD_VALUE = StitchChart.BAD_VALUE;
    private static final int MOST = Integer.MAX_VALUE;
    private static final int LEAST = Integer.MIN_VALUE;

    private static final List<Refused> REFUSED = new ArrayList<>();

    private record Refused(String name, int answer, ToIntFunction<StitchChart> call) {
    }

    public static void main(String[] args) {
        refuseCells();
        refuseOrders();
        refuseBackStitches();
        refusePages();
        for (Refused refused : REFUSED) {
            for (int question = 0; question < 6; question++) {
                String when = refused.name() + ", question " + question;
                StitchChart other = chart();
                Due.be(when, refused.call().applyAsInt(other), refused.answer());
                dueAlike(when, ask(other, question), ask(chart(), question));
            }
        }
        aFullTextRefusesAndStays();
        aFaultyTextRefusesAndStays();
        Due.end();
    }

    private static void refuse(String name, int answer, ToIntFunction<StitchChart> call) {
        REFUSED.add(new Refused(name, answer, call));
    }

    private static void refuseCells() {
        refuse("reset too narrow", BAD_VALUE, chart -> chart.reset(0, 5));
        refuse("reset too wide", BAD_VALUE, chart -> chart.reset(25, 5));
        refuse("reset too low", BAD_VALUE, chart -> chart.reset(5, 0));
        refuse("reset too high", BAD_VALUE, chart -> chart.reset(5, 25));
        refuse("setCell outside", UNKNOWN, chart -> chart.setCell(6, 0, 2));
        refuse("setCell of color 7", BAD_VALUE, chart -> chart.setCell(0, 0, 7));
        refuse("setCell of color -1", BAD_VALUE, chart -> chart.setCell(0, 0, -1));
        refuse("fill outside", UNKNOWN, chart -> chart.fill(0, 5, 2, 2, 2));
        refuse("fill too wide", BAD_VALUE, chart -> chart.fill(1, 0, 6, 2, 2));
        refuse("fill too high", BAD_VALUE, chart -> chart.fill(0, 1, 2, 5, 2));
        refuse("fill without width", BAD_VALUE, chart -> chart.fill(0, 0, 0, 2, 2));
        refuse("fill of color 7", BAD_VALUE, chart -> chart.fill(0, 0, 6, 5, 7));
        refuse("cell outside", UNKNOWN, chart -> chart.cell(6, 5));
        refuse("isLone outside", UNKNOWN, chart -> chart.isLone(-1, 0));
        refuse("merge of 0 rounds", BAD_VALUE, chart -> chart.merge(0));
        refuse("merge of 21 rounds", BAD_VALUE, chart -> chart.merge(21));
    }

    private static void refuseOrders() {
        refuse("count of color 7", BAD_VALUE, chart -> chart.count(7, 0));
        refuse("count of property 5", BAD_VALUE, chart -> chart.count(1, 5));
        refuse("run of color 0", BAD_VALUE, chart -> chart.run(0, 0, 0));
        refuse("run that is unknown", UNKNOWN, chart -> chart.run(1, 99, 0));
        refuse("run of property 4", BAD_VALUE, chart -> chart.run(1, 0, 4));
        refuse("runAt of a negative place", BAD_VALUE, chart -> chart.runAt(1, -1));
        refuse("runAt behind the last place", StitchChart.NONE, chart -> chart.runAt(1, 99));
        refuse("runAt without runs", StitchChart.NONE, chart -> chart.runAt(6, 0));
        refuse("moveRun of color 0", BAD_VALUE, chart -> chart.moveRun(0, 0, 1));
        refuse("moveRun from behind the last place", BAD_VALUE, chart -> chart.moveRun(1, 99, 0));
        refuse("moveRun to behind the last place", BAD_VALUE, chart -> chart.moveRun(1, 0, 99));
        refuse("moveRun to a negative place", BAD_VALUE, chart -> chart.moveRun(1, 2, -1));
        refuse("firstOrder of color 0", BAD_VALUE, chart -> chart.firstOrder(0));
        refuse("firstOrder of color 7", BAD_VALUE, chart -> chart.firstOrder(7));
        refuse("shorten of color 0", BAD_VALUE, chart -> chart.shorten(0));
        refuse("shorten of color 7", BAD_VALUE, chart -> chart.shorten(7));
        refuse("setThread of reach 1001", BAD_VALUE, chart -> chart.setThread(1001, 5));
        refuse("setThread of reach -1", BAD_VALUE, chart -> chart.setThread(-1, 5));
        refuse("setThread of tail 201", BAD_VALUE, chart -> chart.setThread(5, 201));
        refuse("setThread of tail -1", BAD_VALUE, chart -> chart.setThread(5, -1));
    }

    private static void refuseBackStitches() {
        refuse("setBack outside", UNKNOWN, chart -> chart.setBack(0, 5, true, true));
        refuse("setBack off outside", UNKNOWN, chart -> chart.setBack(6, 0, false, false));
        refuse("back outside", UNKNOWN, chart -> chart.back(7, 0, true));
        refuse("outline of color 0", BAD_VALUE, chart -> chart.outline(0));
        refuse("outline of color 7", BAD_VALUE, chart -> chart.outline(7));
        refuse("backs of property 5", BAD_VALUE, chart -> chart.backs(5));
    }

    private static void refusePages() {
        refuse("setPages of 3 columns", BAD_VALUE, chart -> chart.setPages(3, 6, 0));
        refuse("setPages of 25 lines", BAD_VALUE, chart -> chart.setPages(6, 25, 0));
        refuse("setPages of an overlap of 4", BAD_VALUE, chart -> chart.setPages(6, 6, 4));
        refuse("page that is unknown", UNKNOWN, chart -> chart.page(99, 0));
        refuse("page of property 6", BAD_VALUE, chart -> chart.page(0, 6));
        refuse("onPage of an unknown page", UNKNOWN, chart -> chart.onPage(-1, 0, 0));
        refuse("onPage of color 7", BAD_VALUE, chart -> chart.onPage(0, 7, 0));
        refuse("onPage of property 3", BAD_VALUE, chart -> chart.onPage(0, 0, 3));
        refuse("pageOf outside", UNKNOWN, chart -> chart.pageOf(6, 0));
        refuse("the greatest arguments", UNKNOWN, chart -> chart.fill(MOST, MOST, MOST, MOST, MOST));
        refuse("the least arguments", UNKNOWN, chart -> chart.fill(LEAST, LEAST, LEAST, LEAST, LEAST));
    }

    /** A chart on which each state differs from that of a new one, and each order from the first one. */
    private static StitchChart chart() {
        StitchChart chart = Due.chart("a.a.ab", "b.c.b.", "a..ee.", ".b.c.d", "cc.dd.");
        for (int color = 1; color <= 4; color++) {
            chart.moveRun(color, 0, 1);
        }
        chart.setThread(20, 11);
        chart.setPages(4, 4, 3);
        chart.outline(3);
        chart.setBack(6, 0, true, true);
        Due.type(chart, "3e.f/2a");
        return chart;
    }

    private static void dueAlike(String when, List<Integer> got, List<Integer> want) {
        Due.be(when + ": answers", got.size(), want.size());
        for (int index = 0; index < want.size(); index++) {
            Due.be(when + ": answer " + index, got.get(index), want.get(index));
        }
    }

    private static List<Integer> ask(StitchChart chart, int question) {
        List<Integer> answers = new ArrayList<>();
        switch (question) {
            case 0:
                askCells(chart, answers);
                break;
            case 1:
                askRuns(chart, answers);
                break;
            case 2:
                askBacks(chart, answers);
                break;
            case 3:
                askPages(chart, answers);
                break;
            case 4:
                askText(chart, answers);
                break;
            default:
                askWhatChanges(chart, answers);
                break;
        }
        return answers;
    }

    private static void askCells(StitchChart chart, List<Integer> answers) {
        for (int y = 0; y <= 5; y++) {
            for (int x = 0; x <= 6; x++) {
                answers.add(chart.cell(x, y));
                answers.add(chart.isLone(x, y));
                answers.add(chart.pageOf(x, y));
            }
        }
        for (int color = 0; color <= 6; color++) {
            for (int what = 0; what <= 4; what++) {
                answers.add(chart.count(color, what));
            }
        }
    }

    private static void askRuns(StitchChart chart, List<Integer> answers) {
        for (int color = 1; color <= 6; color++) {
            for (int run = 0; run < 8; run++) {
                answers.add(chart.runAt(color, run));
                for (int what = 0; what <= 3; what++) {
                    answers.add(chart.run(color, run, what));
                }
            }
        }
    }

    private static void askBacks(StitchChart chart, List<Integer> answers) {
        for (int y = 0; y <= 5; y++) {
            for (int x = 0; x <= 6; x++) {
                answers.add(chart.back(x, y, true));
                answers.add(chart.back(x, y, false));
            }
        }
        for (int what = 0; what <= 4; what++) {
            answers.add(chart.backs(what));
        }
    }

    private static void askPages(StitchChart chart, List<Integer> answers) {
        answers.add(chart.pages());
        for (int page = 0; page < 6; page++) {
            for (int what = 0; what <= 5; what++) {
                answers.add(chart.page(page, what));
            }
            for (int color = 0; color <= 6; color++) {
                for (int what = 0; what <= 2; what++) {
                    answers.add(chart.onPage(page, color, what));
                }
            }
        }
    }

    private static void askText(StitchChart chart, List<Integer> answers) {
        answers.add(chart.type('f'));
        answers.add(chart.readChart());
        for (int y = 0; y < 5; y++) {
            for (int x = 0; x < 6; x++) {
                answers.add(chart.cell(x, y));
            }
        }
        answers.add(chart.clearText());
    }

    private static void askWhatChanges(StitchChart chart, List<Integer> answers) {
        answers.add(chart.setThread(60, 30));
        for (int color = 1; color <= 6; color++) {
            answers.add(chart.shorten(color));
            answers.add(chart.firstOrder(color));
        }
        answers.add(chart.merge(3));
        answers.add(chart.outline(2));
        answers.add(chart.clearBack());
        answers.add(chart.reset(7, 7));
        answers.add(chart.pages());
    }

    /** A chart with a text of 120 characters that has no fault. */
    private static StitchChart fullChart() {
        StitchChart chart = new StitchChart();
        chart.reset(24, 5);
        chart.fill(1, 1, 3, 3, 6);
        chart.moveRun(6, 0, 2);
        chart.outline(6);
        Due.type(chart, "01a".repeat(24) + "/" + "b".repeat(24) + "/" + "c".repeat(22));
        return chart;
    }

    private static void aFullTextRefusesAndStays() {
        for (char sign : new char[] {'a', '.', '/', '1', '?', 0, 65535}) {
            for (int question = 0; question < 6; question++) {
                String when = "type(" + (int) sign + ") when full, question " + question;
                StitchChart other = fullChart();
                Due.be(when, other.type(sign), StitchChart.FULL);
                dueAlike(when, ask(other, question), ask(fullChart(), question));
            }
        }
    }

    private static void aFaultyTextRefusesAndStays() {
        String[] faults = {"?", "3", "0a", "255", "5/", "////?", "3f/4d?", "6b/7b", "b/b/b/b/b/b"};
        int[] answers = {-104, -105, -104, -106, -105, -108, -109, -220, -220};
        for (int index = 0; index < faults.length; index++) {
            for (int question = 0; question < 6; question++) {
                String when = "readChart() of " + faults[index] + ", question " + question;
                StitchChart other = chart();
                StitchChart same = chart();
                for (StitchChart each : new StitchChart[] {other, same}) {
                    each.clearText();
                    Due.type(each, "bbb/" + faults[index]);
                }
                Due.be(when, other.readChart(), answers[index]);
                dueAlike(when, ask(other, question), ask(same, question));
            }
        }
    }
}
