import java.util.ArrayList;
import java.util.List;
import java.util.Map;

/** Every number of every call: the last ones that are told, and the first ones beyond them, in bureaus of all sorts. */
public final class NumberBoundTest {
    private static final int BAD = Run.BAD, NO = Run.NO;
    private static final List<String> CHANGING = List.of("write", "pass", "permit", "alter", "stamp");
    private static final Checks checks = new Checks();

    public static void main(String[] args) {
        checks.sentence("BAD: a number is none that is told: the first town");
        bureau(new Run(checks), 4);
        checks.sentence("BAD: a number is none that is told (PERSONS: such as there are): two");
        bureau(Run.laid(checks, Towns.gathering("n1;", 0, 3)), 2);
        checks.sentence("BAD: a number is none that is told (PERSONS: such as there are): five");
        bureau(Run.laid(checks, Towns.gathering("n1;c6;", 0, 3, 1, 2, 2)).times(3, "pass", 1).times(1, "keep"), 5);
        checks.sentence("BAD: a number is none that is told: fewer PERSONS than in the town ahead");
        bureau(Run.laid(checks, Towns.gathering("l3,4;", 3, 3, 3, 3, 3)).times(1, "wipe").lay("p0;p0;p0;h2,3,5,5,10;"), 3);
        checks.sentence("BAD: Of several the first: ahead of NO, NONE and FULL where all is full");
        bureau(new Run(checks).toDay(999).times(6, "stamp", 0, 1, 2).times(2, "keep").times(200, "write", 'p'), 4);
        noTwoOfOne();
        twoUnlike();
        severalWrong();
        questionsChangeNothing();
        lastCall();
        checks.end("NumberBoundTest");
    }

    /** Numbers that are told; of two persons the second one is the last. */
    private static int[] told(int[][] bounds, int persons) {
        int[] numbers = new int[bounds.length];
        for (int k = 0; k < numbers.length; k++) {
            numbers[k] = k == 1 && Bounds.isPerson(bounds[k]) ? persons - 1 : bounds[k][0];
        }
        return numbers;
    }

    /** The same numbers with another one at a place; of two persons the other one makes room. */
    private static int[] with(int[] numbers, int[][] bounds, int place, int number, int persons) {
        int[] others = numbers.clone();
        others[place] = number;
        if (Bounds.areTwo(bounds) && others[0] == others[1]) {
            others[1 - place] = number == 0 ? persons - 1 : 0;
        }
        return others;
    }

    private static void bureau(Run run, int persons) {
        for (Map.Entry<String, int[][]> entry : Bounds.CALLS.entrySet()) {
            String name = entry.getKey();
            int[][] bounds = entry.getValue();
            int[] numbers = told(bounds, persons);
            for (int place = 0; place < bounds.length; place++) {
                int low = bounds[place][0];
                int high = Bounds.last(bounds[place], persons);
                for (int number : new int[] {low, high}) {
                    int answer = run.answerOfCopy(name, with(numbers, bounds, place, number, persons));
                    checks.holds(name + " with " + number + " as number " + place + " is not BAD", answer != BAD);
                }
                for (int number : new int[] {low - 1, high + 1, Integer.MIN_VALUE, Integer.MAX_VALUE}) {
                    int[] wrong = with(numbers, bounds, place, number, persons);
                    run.unchangedBy(name, wrong);
                    checks.due(name + " with " + number + " as number " + place, run.answerOfCopy(name, wrong), BAD);
                }
            }
        }
    }

    private static List<String> callsOfTwo() {
        List<String> names = new ArrayList<>();
        for (Map.Entry<String, int[][]> entry : Bounds.CALLS.entrySet()) {
            if (Bounds.areTwo(entry.getValue())) {
                names.add(entry.getKey());
            }
        }
        return names;
    }

    private static void alike(Run run, String name, int i, int j, int persons) {
        int[] numbers = told(Bounds.CALLS.get(name), persons);
        numbers[0] = i;
        numbers[1] = j;
        run.refused(BAD, name, numbers);
    }

    private static void noTwoOfOne() {
        checks.sentence("BAD: two: such as there are: of one PERSON there are none");
        for (String name : callsOfTwo()) {
            Run run = Run.laid(checks, "p0;h0,0,1,1,5;");
            alike(run, name, 0, 0, 1);
            alike(run, name, 0, 1, 1);
            alike(run, name, 1, 0, 1);
        }
    }

    private static void twoUnlike() {
        checks.sentence("BAD: two: unlike");
        for (String name : callsOfTwo()) {
            Run run = new Run(checks);
            for (int i = -1; i <= 5; i++) {
                alike(run, name, i, i, 4);
            }
        }
    }

    private static void severalWrong() {
        checks.sentence("BAD: every number is none that is told");
        for (Map.Entry<String, int[][]> entry : Bounds.CALLS.entrySet()) {
            for (int number : new int[] {Integer.MIN_VALUE, -3, 1000, Integer.MAX_VALUE}) {
                int[] numbers = new int[entry.getValue().length];
                java.util.Arrays.fill(numbers, number);
                new Run(checks).refused(BAD, entry.getKey(), numbers);
            }
        }
    }

    private static void questionsChangeNothing() {
        checks.sentence("What asks changes nothing");
        for (Map.Entry<String, int[][]> entry : Bounds.CALLS.entrySet()) {
            String name = entry.getKey();
            int[][] bounds = entry.getValue();
            if (CHANGING.contains(name)) {
                continue;
            }
            Run run = new Run(checks).times(2, "pass", 2).times(1, "stamp", 0, 1, 2).times(1, "keep")
                .times(1, "permit", 0, 1).times(1, "write", 'p');
            int[] numbers = told(bounds, 4);
            for (int place = 0; place < bounds.length; place++) {
                for (int number = bounds[place][0]; number <= Bounds.last(bounds[place], 4); number++) {
                    run.unchangedBy(name, with(numbers, bounds, place, number, 4));
                }
            }
        }
        new Run(checks).times(3, "pass", 3).unchangedBy("first").times(2, "write", 'p').unchangedBy("fault");
    }

    private static void lastCall() {
        checks.sentence("An object is used for at most 512 calls after it has been made");
        new Run(checks).times(509, "permit", 0, 1).due(8, "count", 6).due(1, "leave", 0, 1).due(0, "permit", 0, 1);
        Run days = new Run(checks).toDay(999).times(470, "where", 3, 0, 30);
        days.due(999, "count", 1).due(NO, "pass", 1).due(7, "undo");
    }
}
