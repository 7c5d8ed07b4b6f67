import java.lang.reflect.Method;

/** Each promise has boundary tests of its own name. */
public final class BoundaryIndexTest {
    private static final Check check = new Check();
    private static final Class<?>[] TESTS = {BoundaryBuildTest.class, BoundaryMoveTest.class, BoundaryTurnTest.class,
        BoundaryLookTest.class, BoundaryAheadTest.class, BoundaryTextTest.class, BoundaryUndoTest.class};

    public static void main(String[] args) {
        for (int promise = 1; promise <= 28; promise++) {
            int many = 0;
            for (Class<?> tests : TESTS) {
                for (Method method : tests.getDeclaredMethods()) {
                    many += method.getName().matches("promise" + promise + "[A-Z].*") ? 1 : 0;
                }
            }
            check.due("two methods at least for the promise " + promise, many >= 2 ? 1 : 0, 1);
        }
        check.end("BoundaryIndexTest");
    }
}
