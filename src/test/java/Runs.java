import java.lang.reflect.Method;
import java.lang.reflect.Modifier;
import java.util.ArrayList;
import java.util.Arrays;
import java.util.List;
import java.util.Map;
import java.util.Set;
import java.util.TreeMap;
import java.util.regex.Matcher;
import java.util.regex.Pattern;

/**
 * A run of calls on a new object, told in a line whose parts are parted by a blank:
 * name(numbers)=answer, name(numbers) whose answer is not looked at, 3*name(numbers) thrice the same,
 * 'letters' to be fed. MIN and MAX are the least and greatest int; L1 is the long that tells -1.
 *
 * Beside the answers told, each run shows that refusals and questions change nothing: a twin gets only those
 * calls that change and are not refused, and must then be as the object is, but for REFUSALS. And Model,
 * the document written a second time, must answer each call alike.
 */
final class Runs {
    private static final Set<String> CHANGES = Set.of("feed", "coast", "blows", "comes", "lies", "thick", "owns",
            "stands", "carries", "hours", "back", "row", "judge", "clear", "image", "restore");
    private static final Pattern PART = Pattern.compile("(?:(\\d+)\\*)?(\\w+)\\(([^)]*)\\)(?:=(\\S+))?");
    /** Behind its 512th call nothing is promised of an object. */
    private static final int MOST_CALLS = 510;
    private static final Map<String, Method> PROGRAMS = methodsOf(OnlyInFog.class);
    private static final Map<String, Method> MODELS = methodsOf(Model.class);

    private final OnlyInFog program = new OnlyInFog();
    private final OnlyInFog twin = new OnlyInFog();
    private final Model model = new Model();
    private final int[] refused = new int[7];
    private int made = 0;
    private final List<String> faults = new ArrayList<>();

    private Runs() {
    }

    /** What is not as due in a run. */
    static List<String> faultsOf(String run) throws ReflectiveOperationException {
        Runs r = new Runs();
        for (String part : run.trim().split("\\s+")) {
            if (part.startsWith("'")) {
                for (char letter : part.substring(1, part.length() - 1).toCharArray()) {
                    r.call("feed", new int[] {letter}, "");
                }
            } else {
                r.callPart(part);
            }
        }
        r.nothingElseChanged();
        return r.faults;
    }

    private static Map<String, Method> methodsOf(Class<?> c) {
        Map<String, Method> found = new TreeMap<>();
        for (Method method : c.getDeclaredMethods()) {
            boolean ofInts = Arrays.stream(method.getParameterTypes()).allMatch(type -> type == int.class);
            if (Modifier.isPublic(method.getModifiers()) && ofInts) {
                found.put(method.getName(), method);
            }
        }
        return found;
    }

    private void callPart(String part) throws ReflectiveOperationException {
        Matcher told = PART.matcher(part);
        if (!told.matches()) {
            throw new IllegalArgumentException(part);
        }
        int times = told.group(1) == null ? 1 : Integer.parseInt(told.group(1));
        String[] texts = told.group(3).isEmpty() ? new String[0] : told.group(3).split(",");
        int[] arguments = Arrays.stream(texts).mapToInt(Runs::number).toArray();
        for (int i = 0; i < times; i++) {
            call(told.group(2), arguments, told.group(4) == null ? "" : told.group(4));
        }
    }

    private static int number(String text) {
        switch (text) {
            case "MIN":
                return Integer.MIN_VALUE;
            case "MAX":
                return Integer.MAX_VALUE;
            default:
                return Integer.parseInt(text);
        }
    }

    private static long answer(String text) {
        return text.startsWith("L") ? Model.LONG + Long.parseLong(text.substring(1)) : Long.parseLong(text);
    }

    private void call(String name, int[] arguments, String due) throws ReflectiveOperationException {
        Object[] boxed = Arrays.stream(arguments).boxed().toArray();
        long got = ((Number) PROGRAMS.get(name).invoke(program, boxed)).longValue();
        made++;
        String call = name + Arrays.toString(arguments) + " answered " + got;
        if (!due.isEmpty() && got != answer(due)) {
            faults.add(call + ", due is " + due);
        }
        long models = ((Number) MODELS.get(name).invoke(model, boxed)).longValue();
        if (got != models) {
            faults.add(call + ", the model " + models);
        }
        int refusal = refusal(got);
        refused[refusal]++;
        if (refusal == 0 && CHANGES.contains(name)) {
            PROGRAMS.get(name).invoke(twin, boxed);
        }
    }

    /** 1 for -1 and so on; 0 if the answer is no refusal. */
    private static int refusal(long answer) {
        long number = answer > Integer.MAX_VALUE ? answer - Model.LONG : -answer;
        return number >= 1 && number <= 6 ? (int) number : 0;
    }

    private void nothingElseChanged() {
        for (int number = 1; number <= 6; number++) {
            int counted = program.count(10 + number);
            if (counted != refused[number]) {
                faults.add("REFUSALS -" + number + " are " + counted + ", there were " + refused[number]);
            }
            if (twin.count(10 + number) != 0) {
                faults.add("the twin was refused");
            }
        }
        List<Integer> ours = allOf(program);
        List<Integer> twins = allOf(twin);
        if (!ours.equals(twins)) {
            faults.add("a refusal or question changed what is there: " + ours + " instead of " + twins);
        }
        if (made + 6 + ours.size() > MOST_CALLS) {
            faults.add("the run is too long: with what is asked behind it " + (made + 6 + ours.size()) + " calls");
        }
    }

    /** All that calls can tell, at last by calls that change it; each number here is a call's answer. */
    private static List<Integer> allOf(OnlyInFog x) {
        List<Integer> all = new ArrayList<>();
        addSeen(x, all);
        all.add(x.judge());
        int people = all.get(0);
        int things = all.get(1);
        for (int i = 0; i < 9; i++) {
            all.add(x.back());
            if (all.get(all.size() - 1) < 0) {
                break;
            }
            addChangeable(x, people, things, all);
        }
        all.add(x.coast());
        all.add(x.restore());
        addSeen(x, all);
        return all;
    }

    private static void addSeen(OnlyInFog x, List<Integer> all) {
        int first = all.size();
        for (int what = 0; what < 10; what++) {
            all.add(x.count(what));
        }
        int people = all.get(first);
        int things = all.get(first + 1);
        int fronts = all.get(first + 2);
        addChangeable(x, people, things, all);
        for (int person = 0; person < people; person++) {
            for (int what = 0; what < 3; what++) {
                all.add(x.person(person, what));
            }
        }
        for (int thing = 0; thing < things; thing++) {
            all.add(x.thing(thing, 0));
        }
        for (int front = 0; front < fronts; front++) {
            for (int what = 0; what < 3; what++) {
                all.add(x.front(front, what));
            }
        }
    }

    private static void addChangeable(OnlyInFog x, int people, int things, List<Integer> all) {
        all.add(x.count(3));
        all.add(x.count(4));
        for (int person = 0; person < people; person++) {
            all.add(x.person(person, 3));
        }
        for (int thing = 0; thing < things; thing++) {
            all.add(x.thing(thing, 1));
            all.add(x.thing(thing, 2));
        }
    }
}
