import java.lang.reflect.Constructor;
import java.lang.reflect.Field;
import java.lang.reflect.Method;
import java.lang.reflect.Modifier;
import java.util.Arrays;
import java.util.TreeSet;

/** The public face, and promise 1: a new object. */
public final class FaceTest {
    private static final String[] METHODS = {
        "reset(int,int)", "type(char)", "clearText()", "readChart()", "setCell(int,int,int)",
        "fill(int,int,int,int,int)", "cell(int,int)", "count(int,int)", "isLone(int,int)", "merge(int)",
        "run(int,int,int)", "runAt(int,int)", "moveRun(int,int,int)", "firstOrder(int)", "shorten(int)",
        "setThread(int,int)", "setBack(int,int,boolean,boolean)", "back(int,int,boolean)", "outline(int)",
        "clearBack()", "backs(int)", "setPages(int,int,int)", "page(int,int)", "onPage(int,int,int)",
        "pages()", "pageOf(int,int)"
    };

    public static void main(String[] args) {
        theFaceIsThatOfTheDocument();
        theConstantsAreThoseOfTheDocument();
        aNewObjectIsAnEmptyChart();
        objectsShareNothing();
        Due.end();
    }

    private static String told(Method method) {
        StringBuilder told = new StringBuilder(method.getName()).append('(');
        for (Class<?> type : method.getParameterTypes()) {
            told.append(told.charAt(told.length() - 1) == '(' ? "" : ",").append(type.getName());
        }
        return told.append(')').toString();
    }

    private static void theFaceIsThatOfTheDocument() {
        TreeSet<String> found = new TreeSet<>();
        for (Method method : StitchChart.class.getDeclaredMethods()) {
            if (!Modifier.isPrivate(method.getModifiers()) && !method.isSynthetic()) {
                found.add(told(method));
                Due.be(told(method) + " is public", Modifier.isPublic(method.getModifiers()) ? 1 : 0, 1);
                Due.be(told(method) + " answers int", method.getReturnType() == int.class ? 1 : 0, 1);
            }
        }
        TreeSet<String> wanted = new TreeSet<>(Arrays.asList(METHODS));
        Due.be("the methods " + found + " are " + wanted, found.equals(wanted) ? 1 : 0, 1);
        Constructor<?>[] constructors = StitchChart.class.getDeclaredConstructors();
        Due.be("constructors", constructors.length, 1);
        Due.be("parameters of the constructor", constructors[0].getParameterCount(), 0);
        Due.be("the class is final", Modifier.isFinal(StitchChart.class.getModifiers()) ? 1 : 0, 1);
    }

    private static void theConstantsAreThoseOfTheDocument() {
        Due.be("UNKNOWN", StitchChart.UNKNOWN, -1);
        Due.be("BAD_VALUE", StitchChart.BAD_VALUE, -2);
        Due.be("FULL", StitchChart.FULL, -3);
        Due.be("NONE", StitchChart.NONE, -4);
        int open = 0;
        for (Field field : StitchChart.class.getDeclaredFields()) {
            open += Modifier.isPrivate(field.getModifiers()) ? 0 : 1;
        }
        Due.be("fields that are not private", open, 4);
    }

    private static void aNewObjectIsAnEmptyChart() {
        StitchChart chart = new StitchChart();
        Due.be("cell at the right lower end", chart.cell(9, 7), 0);
        Due.be("cell right of it", chart.cell(10, 7), StitchChart.UNKNOWN);
        Due.be("cell below it", chart.cell(9, 8), StitchChart.UNKNOWN);
        for (int what = 0; what <= 4; what++) {
            Due.be("count(0, " + what + ")", chart.count(0, what), 0);
            Due.be("backs(" + what + ")", chart.backs(what), 0);
        }
        Due.be("clearText()", chart.clearText(), 0);
        Due.be("pages()", chart.pages(), 4);
        Due.be("page(3, 0)", chart.page(3, 0), 7);
        Due.be("page(3, 1)", chart.page(3, 1), 5);
        Due.be("page(0, 2)", chart.page(0, 2), 8);
        Due.be("page(0, 3)", chart.page(0, 3), 6);
        Due.be("setThread(0, 0)", chart.setThread(0, 0), 30060);
    }

    private static void objectsShareNothing() {
        StitchChart one = new StitchChart();
        StitchChart other = new StitchChart();
        one.fill(0, 0, 10, 8, 3);
        one.outline(3);
        one.type('a');
        one.setThread(1, 2);
        Due.be("stitches of the other", other.count(0, 0), 0);
        Due.be("back stitches of the other", other.backs(0), 0);
        Due.be("text of the other", other.clearText(), 0);
        Due.be("thread of the other", other.setThread(60, 30), 30060);
    }
}
