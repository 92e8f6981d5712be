import java.util.Set;
import java.util.TreeSet;

/** Runs every boundary case of the document: each is a method of its own, named by its promise. */
public final class EdgesTest {
    private static final Class<?>[] CASES = {
        SetupEdges.class, PieceTextEdges.class, CostEdges.class, ToldEdges.class, WouldBeEdges.class,
        ChangeEdges.class, WrittenEdges.class
    };

    public static void main(String[] args) throws Exception {
        Set<Integer> promises = new TreeSet<>();
        int failed = 0;
        for (Class<?> one : CASES) {
            failed += Edges.failedCases(one, promises);
        }
        for (int promise = 1; promise <= 39; promise++) {
            if (!promises.contains(promise)) {
                failed++;
                System.out.println("promise " + promise + " has no boundary case");
            }
        }
        System.out.println(failed == 0 ? "all boundary cases hold" : failed + " boundary cases do not hold");
        if (failed != 0) {
            System.exit(1);
        }
    }
}
