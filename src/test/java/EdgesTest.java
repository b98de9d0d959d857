import java.util.Map;
import java.util.TreeMap;

/** Runs the tests of the boundary cases that the document names; each promise has to have some. */
public final class EdgesTest {
    static final Desk DESK = new Desk();
    private static final int PROMISES = 39;

    public static void main(String[] args) throws IllegalAccessException {
        Map<Integer, Integer> tests = new TreeMap<>();
        for (Class<?> edges : new Class<?>[] {TextEdges.class, ActEdges.class, AskEdges.class, BookEdges.class}) {
            DESK.runAll(edges, tests);
        }
        for (int promise = 1; promise <= PROMISES; promise++) {
            DESK.due("tests of promise " + promise + " are there", tests.containsKey(promise), true);
        }
        int all = 0;
        for (int some : tests.values()) {
            all += some;
        }
        System.out.println(all + " tests of boundary cases");
        DESK.close("EdgesTest");
    }
}
