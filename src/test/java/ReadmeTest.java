import java.io.IOException;
import java.lang.reflect.Method;
import java.lang.reflect.Modifier;
import java.nio.file.Files;
import java.nio.file.Path;
import java.util.ArrayList;
import java.util.Arrays;
import java.util.List;
import java.util.Map;
import java.util.Set;
import java.util.TreeMap;
import java.util.TreeSet;
import java.util.regex.Matcher;
import java.util.regex.Pattern;

/**
 * README.md holds: its examples answer what they say; its tables tell each call of the face with the names
 * of its numbers, and its refusals in the order in which they come.
 * Its one argument is the class's source file, which has the names.
 */
public final class ReadmeTest {
    private static final Pattern ROW = Pattern.compile("\\| `(\\w+)\\(([^)]*)\\)` \\|([^|]*)\\|([^|]*)\\|");
    private static final Pattern REFUSAL = Pattern.compile("`(-\\d)`");
    private static final Pattern FACE = Pattern.compile("public (int|long) (\\w+)\\(([^)]*)\\)");
    private static final Pattern EXAMPLE = Pattern.compile("x\\.(\\w+)\\(([^)]*)\\);\\s+// (-?\\d+).*");
    private static final Pattern LETTERS = Pattern.compile("for \\(char letter : \"([^\"]*)\"\\.toCharArray\\(\\)\\) \\{");
    /** What an example has besides: a new object, and the loop's inside and end. */
    private static final Set<String> BESIDES =
            Set.of("OnlyInFog x = new OnlyInFog();", "x.feed(letter);", "}");

    /** A good number for each name of a number, where it is another than 0. */
    private static final Map<String, Integer> GOOD =
            Map.of("letter", 107, "other", 1, "n", 1, "v", 1, "t", 2);
    private static final int[] BAD = {Integer.MIN_VALUE, Integer.MAX_VALUE};

    private static final int EMPTY = 0;
    private static final int SETTLED = 1;
    private static final int FULL = 2;

    private static int wrong = 0;

    private static void due(String what, Object got, Object want) {
        if (!got.equals(want)) {
            wrong++;
            System.out.println(what + ": " + got + ", due is " + want);
        }
    }

    public static void main(String[] args) throws IOException, ReflectiveOperationException {
        if (args.length != 1) {
            due("the argument, the source file", "missing", "there");
        } else {
            List<String> page = Files.readAllLines(Path.of("README.md"));
            due("examples are there", examples(page) > 25, true);
            tables(page, Files.readString(Path.of(args[0])));
        }
        System.out.println(wrong == 0 ? "README.md holds" : wrong + " things of README.md do not hold");
        if (wrong != 0) {
            System.exit(1);
        }
    }

    // ---- Examples ----

    /** How many answers they tell. */
    private static int examples(List<String> page) throws ReflectiveOperationException {
        OnlyInFog x = new OnlyInFog();
        boolean inside = false;
        int told = 0;
        for (String line : page) {
            if (line.startsWith("```")) {
                inside = line.equals("```java");
            } else if (inside) {
                String code = line.trim();
                Matcher call = EXAMPLE.matcher(code);
                Matcher letters = LETTERS.matcher(code);
                if (call.matches()) {
                    told++;
                    due(code, answer(x, call.group(1), numbers(call.group(2))), Long.parseLong(call.group(3)));
                } else if (letters.matches()) {
                    letters.group(1).chars().forEach(x::feed);
                } else {
                    due("a line that is understood: " + code, BESIDES.contains(code), true);
                    x = code.contains("new ") ? new OnlyInFog() : x;
                }
            }
        }
        return told;
    }

    private static int[] numbers(String text) {
        return text.isEmpty() ? new int[0] : Arrays.stream(text.split(", ")).mapToInt(Integer::parseInt).toArray();
    }

    private static long answer(OnlyInFog x, String name, int[] arguments) throws ReflectiveOperationException {
        Class<?>[] types = new Class<?>[arguments.length];
        Arrays.fill(types, int.class);
        Method method = OnlyInFog.class.getMethod(name, types);
        return ((Number) method.invoke(x, Arrays.stream(arguments).boxed().toArray())).longValue();
    }

    // ---- Tables ----

    private static void tables(List<String> page, String source) throws ReflectiveOperationException {
        Map<String, String> face = new TreeMap<>();
        Matcher declared = FACE.matcher(source);
        while (declared.find()) {
            face.put(declared.group(2), declared.group(3).replace("int ", ""));
        }
        Set<String> missing = new TreeSet<>(face.keySet());
        for (String line : page) {
            Matcher row = ROW.matcher(line);
            if (row.matches()) {
                String name = row.group(1);
                due(name + " once in the tables", missing.remove(name), true);
                due("the numbers of " + name, row.group(2), face.get(name));
                due(name + " told as a long", row.group(3).contains("(long)"), isLong(name));
                refusals(name, row.group(2), row.group(4));
            }
        }
        due("calls that the tables leave out", missing.toString(), "[]");
    }

    private static boolean isLong(String name) {
        return Arrays.stream(OnlyInFog.class.getMethods())
                .anyMatch(m -> m.getName().equals(name) && Modifier.isPublic(m.getModifiers())
                        && m.getReturnType() == long.class);
    }

    /** One wrong number tells its refusal; of several the one that the table tells first must come. */
    private static void refusals(String name, String parameters, String told) throws ReflectiveOperationException {
        List<Integer> order = new ArrayList<>();
        Matcher refusal = REFUSAL.matcher(told);
        while (refusal.find()) {
            order.add(Integer.parseInt(refusal.group(1)));
        }
        String[] names = parameters.isEmpty() ? new String[0] : parameters.split(", ");
        int[] good = Arrays.stream(names).mapToInt(n -> GOOD.getOrDefault(n, 0)).toArray();
        due(name + Arrays.toString(good) + " in order", refusal(SETTLED, name, good), 0);
        int[][] alone = new int[good.length][BAD.length];
        Set<Integer> seen = new TreeSet<>();
        for (int i = 0; i < good.length; i++) {
            for (int k = 0; k < BAD.length; k++) {
                int[] arguments = good.clone();
                arguments[i] = BAD[k];
                alone[i][k] = refusal(SETTLED, name, arguments);
                seen.add(alone[i][k]);
            }
        }
        int many = (int) Math.round(Math.pow(BAD.length + 1, good.length));
        for (int state = EMPTY; state <= FULL; state++) {
            int ofState = refusal(state, name, good);
            seen.add(ofState);
            for (int choice = 0; choice < many; choice++) {
                int[] arguments = good.clone();
                List<Integer> fitting = new ArrayList<>(List.of(ofState));
                for (int i = 0, rest = choice; i < good.length; i++, rest /= BAD.length + 1) {
                    int k = rest % (BAD.length + 1) - 1;
                    if (k >= 0) {
                        arguments[i] = BAD[k];
                        fitting.add(alone[i][k]);
                    }
                }
                due(name + Arrays.toString(arguments) + " in state " + state,
                        refusal(state, name, arguments), firstOf(order, fitting));
            }
        }
        seen.remove(0);
        due("the refusals of " + name, seen.toString(), new TreeSet<>(order).toString());
    }

    private static int firstOf(List<Integer> order, List<Integer> fitting) {
        return order.stream().filter(fitting::contains).findFirst().orElse(0);
    }

    /** The refusal (0 none) that a new object in a state answers; it must count that one alone. */
    private static int refusal(int state, String name, int[] arguments) throws ReflectiveOperationException {
        OnlyInFog x = objectIn(state);
        long answered = answer(x, name, arguments);
        long number = isLong(name) && answered > 4000000000000000000L ? 4000000000000000000L - answered : answered;
        int refusal = number < 0 && number >= -6 ? (int) number : 0;
        for (int i = 1; i <= 6; i++) {
            due("refusals -" + i + " behind " + name + Arrays.toString(arguments), x.count(10 + i), -refusal == i ? 1 : 0);
        }
        return refusal;
    }

    private static OnlyInFog objectIn(int state) {
        OnlyInFog x = new OnlyInFog();
        if (state == EMPTY) {
            return x;
        }
        boolean full = state == FULL;
        for (int i = full ? 6 : 1; i > 0; i--) {
            x.blows(2, 9, 0);
        }
        for (int i = full ? 5 : 2; i > 0; i--) {
            x.comes(0, 5, 7);
        }
        for (int i = full ? 8 : 1; i > 0; i--) {
            x.lies(4, 8);
        }
        for (int i = full ? 96 : 0; i > 0; i--) {
            x.feed('k');
        }
        for (int i = full ? 12 : 0; i > 0; i--) {
            x.row(1);
        }
        x.image();
        for (int i = full ? 27 : 1; i > 0; i--) {
            x.hours(37);
        }
        return x;
    }
}
