import java.lang.reflect.Method;
import java.util.ArrayList;
import java.util.Arrays;
import java.util.Comparator;
import java.util.List;
import java.util.Random;

/** Runs of calls that are drawn (by fixed seeds), each answer of the class beside the one of the Model. */
public final class ModelTest {
    private static final int RUNS = 400;
    private static final int CALLS = 512;
    private static final int[] WILD = {Integer.MIN_VALUE, Integer.MAX_VALUE, -5, -2, -1, 6, 10, 11, 31, 99, 1000};
    private static final List<String> OFTEN = List.of("pass", "permit", "alter", "undo");
    private static final Checks checks = new Checks();

    public static void main(String[] args) throws Exception {
        List<Method> methods = new ArrayList<>(Arrays.asList(CoincidenceBureau.class.getDeclaredMethods()));
        methods.removeIf(m -> !java.lang.reflect.Modifier.isPublic(m.getModifiers()));
        methods.sort(Comparator.comparing(Method::getName));
        for (Method m : List.copyOf(methods)) {
            if (OFTEN.contains(m.getName())) {
                methods.addAll(List.of(m, m, m));
            }
        }
        for (int run = 0; run < RUNS && checks.wrongSoFar() < 20; run++) {
            oneRun(run, methods);
        }
        checks.end("ModelTest");
    }

    private static void oneRun(int run, List<Method> methods) throws Exception {
        Random random = new Random(run);
        CoincidenceBureau x = new CoincidenceBureau();
        Model model = new Model();
        int calls = 0;
        // some runs begin near the last day, which the others hardly come to
        for (; run % 40 == 7 && calls < 33; calls++) {
            checks.due("run " + run + " pass", x.pass(30), model.pass(30));
        }
        while (calls < CALLS) {
            boolean town = random.nextInt(100) == 0 && calls < CALLS - 210;
            if (town) {
                String text = text(random);
                checks.due("run " + run + " wipe", x.wipe(), model.wipe());
                for (int k = 0; k < text.length(); k++) {
                    checks.due("run " + run + " write", x.write(text.charAt(k)), model.write(text.charAt(k)));
                }
                checks.due("run " + run + " fault of " + text, x.fault(), model.fault());
                checks.due("run " + run + " lay of " + text, x.lay(), model.lay());
                calls += text.length() + 3;
            } else {
                oneCall(run, x, model, methods.get(random.nextInt(methods.size())), random);
                calls++;
            }
        }
    }

    private static void oneCall(int run, CoincidenceBureau x, Model model, Method m, Random random) throws Exception {
        Object[] numbers = new Object[m.getParameterCount()];
        for (int k = 0; k < numbers.length; k++) {
            numbers[k] = number(m.getName(), random);
        }
        Method other = Model.class.getDeclaredMethod(m.getName(), m.getParameterTypes());
        int got = (int) m.invoke(x, numbers);
        int want = (int) other.invoke(model, numbers);
        checks.due("run " + run + " " + m.getName() + Arrays.toString(numbers), got, want);
    }

    private static int number(String call, Random random) {
        if (random.nextInt(40) == 0) {
            return WILD[random.nextInt(WILD.length)];
        }
        if (call.equals("pass") && random.nextBoolean()) {
            return 1 + random.nextInt(30);
        }
        if (call.equals("write")) {
            return random.nextInt(140);
        }
        return random.nextInt(5 + random.nextInt(6));
    }

    private static String text(Random random) {
        StringBuilder text = new StringBuilder();
        int persons = 1 + random.nextInt(5);
        for (int i = 0; i < persons; i++) {
            text.append('p').append(random.nextInt(4)).append(';');
        }
        int places = 1 + random.nextInt(6);
        while (text.length() < 188 && random.nextInt(25) != 0) {
            text.append(item(random, persons, places));
        }
        if (random.nextInt(3) == 0) {
            spoil(text, random);
        }
        return text.toString();
    }

    private static String item(Random random, int persons, int places) {
        int i = random.nextInt(persons);
        switch (random.nextInt(12)) {
            case 0: return "n" + random.nextInt(10) + ";";
            case 1: return "c" + (2 + random.nextInt(5)) + ";";
            case 2: return "f" + random.nextInt(21) + ";";
            case 3: return "z" + random.nextInt(100) + ";";
            case 4: return persons < 2 ? "" : "l" + i + "," + (i + 1 + random.nextInt(persons - 1)) % persons + ";";
            default: return "h" + i + "," + random.nextInt(4) + "," + random.nextInt(places) + ","
                + random.nextInt(places) + "," + random.nextInt(11) + ";";
        }
    }

    private static void spoil(StringBuilder text, Random random) {
        String letters = "0123456789,;phlncfz x";
        int at = random.nextInt(text.length());
        char letter = letters.charAt(random.nextInt(letters.length()));
        if (random.nextBoolean()) {
            text.setCharAt(at, letter);
        } else if (random.nextBoolean()) {
            text.insert(at, letter);
        } else {
            text.deleteCharAt(at);
        }
    }
}
