import java.lang.reflect.Method;

/** Each promise has tests of its boundaries. */
public final class CoverTest {
    private static final Class<?>[] ALL = {TownEdgesTest.class, TextEdgesTest.class, LawEdgesTest.class, RowEdgesTest.class,
        BookEdgesTest.class, SearchEdgesTest.class, DrawEdgesTest.class};

    public static void main(String[] args) {
        Check c = new Check();
        int[] tests = new int[34];
        for (Class<?> k : ALL) {
            for (Method m : Edges.testsOf(k)) {
                tests[Edges.promiseOf(m)]++;
            }
        }
        for (int promise = 1; promise <= 33; promise++) {
            c.due("promise " + promise + " has tests", tests[promise] > 0, true);
        }
        c.close("CoverTest");
    }
}
