import java.lang.reflect.Method;
import java.util.ArrayList;
import java.util.Arrays;
import java.util.Comparator;
import java.util.List;
import java.util.Map;
import java.util.Random;
import java.util.TreeMap;

/** Runs of calls that are drawn (by fixed seeds), each answer of the class beside the one of the Model. */
public final class ModelTest {
    private static final int RUNS = 600;
    private static final int CALLS = 512;
    private static final int LONGEST_TEXT = 200;
    private static final int[] WILD = {Integer.MIN_VALUE, Integer.MAX_VALUE, -5, -2, -1, 6, 10, 11, 31, 99, 1000};
    private static final List<String> OFTEN = List.of("pass", "permit", "alter", "undo", "stamp", "least", "laws");
    private static final Map<Integer, String> REFUSALS = Map.of(-1, "BAD", -2, "NO", -3, "FULL", -4, "NONE");
    /** What each call can answer beside other numbers, as the document's promises tell. */
    private static final String SORTS = "ahead BAD NONE/alter BAD NO/avoid BAD/back NO/count BAD/fault NONE/filed BAD/"
        + "first NONE/forget/habit BAD NONE/keep FULL/kind BAD/laws BAD NONE/lay NO/least BAD NONE/leave BAD/mean BAD/"
        + "meets BAD/often BAD/pass BAD NO/permit BAD/stamp BAD FULL/sure BAD/together BAD/undo NO/watch BAD/ways BAD/"
        + "where BAD NONE/wipe/write BAD FULL";
    /** Fewer answers of one sort would hardly show a slip. */
    private static final int ENOUGH = 40;
    private static final Map<String, Integer> seen = new TreeMap<>();
    private static final Checks checks = new Checks();

    public static void main(String[] args) throws Exception {
        List<Method> methods = new ArrayList<>(Arrays.asList(CoincidenceBureau.class.getDeclaredMethods()));
        methods.removeIf(m -> !java.lang.reflect.Modifier.isPublic(m.getModifiers()));
        methods.sort(Comparator.comparing(Method::getName));
        for (Method m : List.copyOf(methods)) {
            if (OFTEN.contains(m.getName())) {
                methods.addAll(List.of(m, m, m));
            }
        }
        for (int run = 0; run < RUNS && checks.wrongSoFar() < 20; run++) {
            oneRun(run, methods);
        }
        everySortOfAnswer();
        checks.end("ModelTest");
    }

    private static void oneRun(int run, List<Method> methods) throws Exception {
        Random random = new Random(run);
        CoincidenceBureau x = new CoincidenceBureau();
        Model model = new Model();
        int calls = run % 4 == 0 ? 0 : layTown(run, x, model, random);
        // some runs begin near the last day, which the others hardly come to
        for (int k = 0; run % 20 == 7 && k < 33; k++, calls++) {
            checks.due("run " + run + " pass", x.pass(30), model.pass(30));
        }
        while (calls < CALLS) {
            if (random.nextInt(150) == 0 && calls < CALLS - LONGEST_TEXT - 20) {
                calls += layTown(run, x, model, random);
            } else {
                oneCall(run, x, model, methods.get(random.nextInt(methods.size())), random);
                calls++;
            }
        }
    }

    /** A new text is told, looked at and laid, if it can be: how many calls that takes. */
    private static int layTown(int run, CoincidenceBureau x, Model model, Random random) {
        String text = text(random);
        checks.due("run " + run + " wipe", x.wipe(), model.wipe());
        for (int k = 0; k < text.length(); k++) {
            int want = model.write(text.charAt(k));
            checks.due("run " + run + " write", x.write(text.charAt(k)), want);
            note("write", want);
        }
        checks.due("run " + run + " fault of " + text, x.fault(), model.fault());
        checks.due("run " + run + " lay of " + text, x.lay(), model.lay());
        return text.length() + 3;
    }

    private static void oneCall(int run, CoincidenceBureau x, Model model, Method m, Random random) throws Exception {
        int[][] bounds = Bounds.CALLS.getOrDefault(m.getName(), new int[0][]);
        Object[] numbers = new Object[m.getParameterCount()];
        for (int k = 0; k < numbers.length; k++) {
            numbers[k] = number(bounds[k], model.count(0), random);
        }
        Method other = Model.class.getDeclaredMethod(m.getName(), m.getParameterTypes());
        int got = (int) m.invoke(x, numbers);
        int want = (int) other.invoke(model, numbers);
        checks.due("run " + run + " " + m.getName() + Arrays.toString(numbers), got, want);
        note(m.getName(), want);
    }

    private static void note(String name, int answer) {
        seen.merge(name + " " + REFUSALS.getOrDefault(answer, "other"), 1, Integer::sum);
    }

    private static int number(int[] bounds, int persons, Random random) {
        if (random.nextInt(40) == 0) {
            return WILD[random.nextInt(WILD.length)];
        }
        int low = bounds[0];
        int high = Bounds.last(bounds, persons);
        // the ends come oftener than the others, and now and then what is beyond them
        if (random.nextInt(8) == 0) {
            return random.nextBoolean() ? low - random.nextInt(2) : high + random.nextInt(2);
        }
        return low + random.nextInt(high - low + 1);
    }

    /** Runs that never come to an answer test nothing of it; one that no promise tells is wrong in both. */
    private static void everySortOfAnswer() {
        for (String sorts : SORTS.split("/")) {
            List<String> words = new ArrayList<>(List.of(sorts.split(" ")));
            String name = words.set(0, "other");
            for (String sort : words) {
                int times = seen.getOrDefault(name + " " + sort, 0);
                checks.holds(name + " answers " + sort + " often enough, not " + times + " times", times >= ENOUGH);
                seen.remove(name + " " + sort);
            }
        }
        checks.holds("no answers but those that are told: " + seen, seen.isEmpty());
    }

    private static String text(Random random) {
        StringBuilder text = new StringBuilder();
        int persons = 1 + random.nextInt(5);
        for (int i = 0; i < persons; i++) {
            text.append('p').append(random.nextInt(4)).append(';');
        }
        int places = 1 + random.nextInt(6);
        while (text.length() < LONGEST_TEXT - 12 && random.nextInt(25) != 0) {
            text.append(item(random, persons, places));
        }
        if (random.nextInt(4) == 0) {
            spoil(text, random);
        }
        // some have more letters than there is room for, so that the last ones are refused
        boolean tooLong = random.nextInt(10) == 0;
        while (tooLong && text.length() <= LONGEST_TEXT) {
            text.append(item(random, persons, places));
        }
        return text.toString();
    }

    private static String item(Random random, int persons, int places) {
        int i = random.nextInt(persons);
        switch (random.nextInt(12)) {
            case 0: return "n" + random.nextInt(10) + ";";
            case 1: return "c" + (2 + random.nextInt(5)) + ";";
            case 2: return "f" + random.nextInt(21) + ";";
            case 3: return "z" + random.nextInt(100) + ";";
            case 4: return persons < 2 ? "" : "l" + i + "," + (i + 1 + random.nextInt(persons - 1)) % persons + ";";
            default: return "h" + i + "," + random.nextInt(4) + "," + random.nextInt(places) + ","
                + random.nextInt(places) + "," + random.nextInt(11) + ";";
        }
    }

    private static void spoil(StringBuilder text, Random random) {
        String letters = "0123456789,;phlncfz x";
        int at = random.nextInt(text.length());
        char letter = letters.charAt(random.nextInt(letters.length()));
        if (random.nextBoolean()) {
            text.setCharAt(at, letter);
        } else if (random.nextBoolean()) {
            text.insert(at, letter);
        } else {
            text.deleteCharAt(at);
        }
    }
}
