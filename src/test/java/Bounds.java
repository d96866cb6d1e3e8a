import java.util.LinkedHashMap;
import java.util.Map;

/** The first and the last of the numbers that each call of the document takes. */
final class Bounds {
    /** Its last one is what the town has. */
    private static final int[] PERSON = {0, -1};
    private static final int[] HOUR = {0, 3};
    private static final int[] PLACE = {0, 5};
    /** The calls that take numbers, in the document's order. */
    static final Map<String, int[][]> CALLS = calls();

    private Bounds() {
    }

    private static Map<String, int[][]> calls() {
        Map<String, int[][]> calls = new LinkedHashMap<>();
        calls.put("write", new int[][] {{32, 126}});
        calls.put("habit", new int[][] {PERSON, HOUR, {0, 2}});
        calls.put("kind", new int[][] {PERSON});
        calls.put("leave", new int[][] {PERSON, PERSON});
        calls.put("pass", new int[][] {{1, 30}});
        calls.put("permit", new int[][] {PERSON, PERSON});
        calls.put("alter", new int[][] {PERSON, HOUR, {0, 10}});
        calls.put("where", new int[][] {PERSON, HOUR, {0, 30}});
        calls.put("filed", new int[][] {{0, 2}});
        calls.put("often", new int[][] {PERSON, PERSON});
        calls.put("together", new int[][] {PERSON, PERSON, HOUR, {0, 1}});
        calls.put("meets", new int[][] {PERSON, PERSON, {0, 1}});
        calls.put("mean", new int[][] {{0, 1}});
        calls.put("least", new int[][] {PERSON, PERSON, {1, 10}, {0, 1}});
        calls.put("avoid", new int[][] {PERSON});
        calls.put("watch", new int[][] {{0, 1}});
        calls.put("stamp", new int[][] {HOUR, PLACE, {0, 5}});
        calls.put("ways", new int[][] {HOUR});
        calls.put("sure", new int[][] {HOUR, PLACE});
        calls.put("laws", new int[][] {{1, 30}, {-1, 9}});
        calls.put("ahead", new int[][] {PERSON, PERSON, {1, 30}});
        calls.put("count", new int[][] {{0, 8}});
        return calls;
    }

    static boolean isPerson(int[] bounds) {
        return bounds == PERSON;
    }

    /** Whether the first two numbers are two PERSONS. */
    static boolean areTwo(int[][] bounds) {
        return bounds.length > 1 && isPerson(bounds[0]) && isPerson(bounds[1]);
    }

    static int last(int[] bounds, int persons) {
        return isPerson(bounds) ? persons - 1 : bounds[1];
    }
}
