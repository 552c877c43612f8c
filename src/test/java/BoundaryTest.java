import java.util.ArrayList;
import java.util.List;

/**
 * Boundary cases: for each sentence of the document that names one a test of its own, pNN_.. of promise NN, with the
 * sentence in its comment or name. They stand in the classes .. Edges; this one runs them all.
 */
public final class BoundaryTest {
    private static final Class<?>[] EDGES = {MoorEdges.class, LawEdges.class, WayEdges.class, HeartEdges.class,
        DeedEdges.class, ShelfEdges.class, RefusalEdges.class};

    public static void main(String[] args) throws Exception {
        List<String> names = new ArrayList<>();
        for (Class<?> edges : EDGES) {
            names.addAll(Checks.runAll(edges));
        }
        int wrong = Checks.wrong();
        for (int promise = 1; promise <= 48; promise++) {
            String start = String.format("p%02d_", promise);
            if (names.stream().noneMatch(name -> name.startsWith(start))) {
                System.out.println("no test of promise " + promise);
                wrong++;
            }
        }
        System.out.println(wrong == 0 ? names.size() + " boundary cases hold" : wrong + " answers are not as due");
        System.exit(wrong == 0 ? 0 : 1);
    }
}
