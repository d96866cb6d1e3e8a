import java.lang.reflect.Method;
import java.util.ArrayList;
import java.util.Arrays;
import java.util.HashMap;
import java.util.List;
import java.util.Map;

/**
 * A run of calls on one object, told by name and numbers, so that the same run can be gone through again on another
 * object: that is how a refused call is shown to have changed nothing.
 */
final class Run {
    static final int BAD = -1, NO = -2, FULL = -3, NONE = -4;

    /** What later calls answer is free, so no run may be longer. */
    private static final int MOST_CALLS = 512;
    private static final Map<String, Method> METHODS = methods();
    private static final List<List<Call>> LOOKS = looks();

    private record Call(String name, int... numbers) {
        int on(CoincidenceBureau x) {
            Object[] boxed = Arrays.stream(numbers).boxed().toArray();
            try {
                return (int) METHODS.get(name).invoke(x, boxed);
            } catch (ReflectiveOperationException e) {
                throw new IllegalStateException(told(), e);
            }
        }

        String told() {
            return name + Arrays.toString(numbers);
        }
    }

    private final Checks checks;
    private final CoincidenceBureau x = new CoincidenceBureau();
    private final List<Call> calls = new ArrayList<>();

    Run(Checks checks) {
        this.checks = checks;
    }

    static Run written(Checks checks, String text) {
        return new Run(checks).write(text);
    }

    static Run laid(Checks checks, String text) {
        return new Run(checks).lay(text);
    }

    Run write(String text) {
        for (int k = 0; k < text.length(); k++) {
            call("write", text.charAt(k));
        }
        return this;
    }

    Run lay(String text) {
        write(text);
        checks.holds(text + " is laid", call("lay") > 0);
        return this;
    }

    int call(String name, int... numbers) {
        Call call = new Call(name, numbers);
        calls.add(call);
        withinCalls(calls.size());
        return call.on(x);
    }

    /** As many times, whatever it answers. */
    Run times(int times, String name, int... numbers) {
        for (int k = 0; k < times; k++) {
            call(name, numbers);
        }
        return this;
    }

    /** Days go by up to this one. */
    Run toDay(int day) {
        for (int left = day - call("count", 1); left > 0; left -= 30) {
            call("pass", Math.min(left, 30));
        }
        return due(day, "count", 1);
    }

    Run due(int want, String name, int... numbers) {
        int got = call(name, numbers);
        checks.due(new Call(name, numbers).told() + " as call " + calls.size(), got, want);
        return this;
    }

    /** Whatever can be seen of the object is as it would be without the call. */
    Run unchangedBy(String name, int... numbers) {
        Call call = new Call(name, numbers);
        List<Call> ahead = List.copyOf(calls);
        for (List<Call> look : LOOKS) {
            String without = seen(ahead, null, look);
            String with = seen(ahead, call, look);
            checks.holds(call.told() + " leaves all as it was: " + without + " became " + with, without.equals(with));
        }
        return this;
    }

    /** The answer is due, and nothing changes. */
    Run still(int want, String name, int... numbers) {
        return unchangedBy(name, numbers).due(want, name, numbers);
    }

    /** The answer of a copy, so that the run itself stays as it is. */
    int answerOfCopy(String name, int... numbers) {
        CoincidenceBureau twin = new CoincidenceBureau();
        for (Call call : calls) {
            call.on(twin);
        }
        return new Call(name, numbers).on(twin);
    }

    /** The call is refused, and nothing changes. */
    Run refused(int want, String name, int... numbers) {
        if (want < NONE || want > BAD) {
            throw new IllegalArgumentException(want + " is no refusal");
        }
        return still(want, name, numbers);
    }

    private void withinCalls(int number) {
        if (number > MOST_CALLS) {
            checks.due("calls of one object, " + MOST_CALLS + " at most,", number, MOST_CALLS);
        }
    }

    private String seen(List<Call> ahead, Call between, List<Call> look) {
        withinCalls(ahead.size() + 1 + look.size());
        CoincidenceBureau twin = new CoincidenceBureau();
        for (Call call : ahead) {
            call.on(twin);
        }
        if (between != null) {
            between.on(twin);
        }
        StringBuilder answers = new StringBuilder();
        for (Call call : look) {
            answers.append(' ').append(call.on(twin));
        }
        return answers.toString();
    }

    private static Map<String, Method> methods() {
        Map<String, Method> methods = new HashMap<>();
        for (Method m : CoincidenceBureau.class.getMethods()) {
            if (m.getDeclaringClass() == CoincidenceBureau.class) {
                methods.put(m.getName(), m);
            }
        }
        return methods;
    }

    private static List<List<Call>> looks() {
        List<List<Call>> looks = new ArrayList<>();
        looks.add(lookAtNumbers());
        looks.add(lookAtHabits());
        looks.add(lookAtDaysToCome());
        looks.add(lookAtStamps());
        looks.add(lookAtUndoing());
        looks.add(lookAtKept());
        looks.add(lookAtText());
        looks.add(lookAtTextInPlace());
        return looks;
    }

    private static void addTwos(List<Call> look, String... names) {
        for (int i = 0; i < 5; i++) {
            for (int j = i + 1; j < 5; j++) {
                for (String name : names) {
                    look.add(new Call(name, i, j));
                }
            }
        }
    }

    private static void addUpTo(List<Call> look, String name, int last) {
        for (int what = 0; what <= last; what++) {
            look.add(new Call(name, what));
        }
    }

    private static List<Call> lookAtNumbers() {
        List<Call> look = new ArrayList<>();
        addUpTo(look, "count", 8);
        addUpTo(look, "filed", 2);
        addUpTo(look, "kind", 4);
        look.add(new Call("first"));
        addTwos(look, "leave", "often");
        return look;
    }

    private static List<Call> lookAtHabits() {
        List<Call> look = new ArrayList<>();
        for (int slot = 0; slot < 20; slot++) {
            for (int what = 0; what <= 2; what++) {
                look.add(new Call("habit", slot / 4, slot % 4, what));
            }
        }
        return look;
    }

    private static List<Call> lookAtDaysToCome() {
        List<Call> look = new ArrayList<>();
        for (int slot = 0; slot < 20; slot++) {
            look.add(new Call("where", slot / 4, slot % 4, 0));
            look.add(new Call("where", slot / 4, slot % 4, 30));
        }
        for (int d = -1; d <= 9; d++) {
            look.add(new Call("laws", 12, d));
        }
        look.add(new Call("pass", 1));
        look.add(new Call("pass", 30));
        addUpTo(look, "filed", 2);
        return look;
    }

    private static List<Call> lookAtStamps() {
        List<Call> look = new ArrayList<>();
        for (int spot = 0; spot < 24; spot++) {
            look.add(new Call("sure", spot / 6, spot % 6));
        }
        addUpTo(look, "ways", 3);
        look.add(new Call("stamp", 0, 0, 1));
        look.add(new Call("ways", 0));
        look.add(new Call("forget"));
        return look;
    }

    private static List<Call> lookAtUndoing() {
        List<Call> look = new ArrayList<>();
        for (int k = 0; k < 9; k++) {
            look.add(new Call("undo"));
            look.add(new Call("count", 1));
            addUpTo(look, "filed", 1);
            look.add(new Call("first"));
            look.add(new Call("laws", 3, 9));
        }
        addTwos(look, "leave", "often");
        return look;
    }

    private static List<Call> lookAtKept() {
        List<Call> look = new ArrayList<>();
        for (int k = 0; k < 3; k++) {
            look.add(new Call("back"));
            look.add(new Call("count", 1));
            look.add(new Call("count", 6));
            addUpTo(look, "filed", 1);
            look.add(new Call("first"));
            look.add(new Call("laws", 3, 9));
            addTwos(look, "leave");
            for (int slot = 0; slot < 20; slot++) {
                look.add(new Call("habit", slot / 4, slot % 4, 2));
            }
        }
        return look;
    }

    private static List<Call> lookAtTextInPlace() {
        List<Call> look = new ArrayList<>();
        look.add(new Call("fault"));
        look.add(new Call("write", ';'));
        look.add(new Call("fault"));
        look.add(new Call("wipe"));
        return look;
    }

    /** What a text holds shows in the town that it tells. */
    private static List<Call> lookAtText() {
        List<Call> look = new ArrayList<>();
        look.add(new Call("lay"));
        look.addAll(lookAtNumbers());
        look.addAll(lookAtHabits());
        return look;
    }
}
