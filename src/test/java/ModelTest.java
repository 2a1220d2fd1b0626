import java.lang.reflect.Method;
import java.util.Arrays;
import java.util.Map;
import java.util.Random;
import java.util.TreeMap;

/** Runs of 512 calls by lot, each answered by OnlyInFog and by Model alike. */
public final class ModelTest {
    private static final int RUNS = 300;
    private static final int CALLS = 512;

    /** For each parameter of a call the least and greatest ordinary number; P, T, F: as many as there are. */
    private static final int P = 1000;
    private static final int T = 1001;
    private static final int F = 1002;
    private static final Map<String, int[][]> ORDINARY = new TreeMap<>();

    static {
        int[] person = {0, P};
        int[] thing = {0, T};
        int[] front = {0, F};
        int[] cell = {0, 23};
        int[] digit = {0, 9};
        int[] choice = {0, 1};
        int[] far = {0, 60};
        int[] near = {0, 30};
        ordinary("feed", new int[] {0, 255});
        ordinary("coast");
        ordinary("person", person, new int[] {0, 8});
        ordinary("thing", thing, new int[] {0, 2});
        ordinary("front", front, new int[] {0, 2});
        ordinary("cell", cell, new int[] {0, 4});
        ordinary("blows", new int[] {0, 6}, digit, digit);
        ordinary("comes", new int[] {0, 7}, digit, cell);
        ordinary("lies", digit, cell);
        ordinary("thick", new int[] {1, 9});
        ordinary("owns", thing, new int[] {-1, P});
        ordinary("stands", person, cell);
        ordinary("carries", thing, cell);
        ordinary("hours", new int[] {1, 12});
        ordinary("back");
        ordinary("fogThen", cell, far);
        ordinary("then", far, new int[] {0, 2});
        ordinary("ownerThen", thing, far);
        ordinary("personThen", person, far, choice);
        ordinary("when", person, thing);
        ordinary("first");
        ordinary("clears", cell);
        ordinary("stand", person, near, choice);
        ordinary("kettle", person, thing, near);
        ordinary("without", far, choice);
        ordinary("swap", near);
        ordinary("whatKind", person, choice);
        ordinary("whichFront", front, cell);
        ordinary("two", person, person, new int[] {1, 30});
        ordinary("sun", person, thing, new int[] {0, 7}, new int[] {2, 20}, choice);
        ordinary("islands", new int[] {-2, 23});
        ordinary("clearRun");
        ordinary("way", cell, cell);
        ordinary("share", person, choice);
        ordinary("sight", new int[] {0, 4});
        ordinary("kinds", new int[] {0, 7});
        ordinary("row", new int[] {0, 23});
        ordinary("judge");
        ordinary("clear");
        ordinary("lots", new int[] {1, 20}, new int[] {Integer.MIN_VALUE, Integer.MAX_VALUE}, choice);
        ordinary("image");
        ordinary("restore");
        ordinary("count", new int[] {0, 16});
    }

    private final Random lot;
    private final OnlyInFog program = new OnlyInFog();
    private final Model model = new Model();
    private final StringBuilder calls = new StringBuilder();
    private int made = 0;
    private int wrong = 0;

    private ModelTest(int seed) {
        lot = new Random(seed);
    }

    private static void ordinary(String call, int[]... ranges) {
        ORDINARY.put(call, ranges);
    }

    public static void main(String[] args) throws ReflectiveOperationException {
        String[] names = ORDINARY.keySet().toArray(new String[0]);
        for (int run = 0; run < RUNS; run++) {
            ModelTest test = new ModelTest(run);
            test.settle();
            while (test.made < CALLS && test.wrong == 0) {
                test.callByLot(names);
            }
            if (test.wrong != 0) {
                System.out.println("in run " + run + ", behind" + test.calls);
                System.exit(1);
            }
        }
        System.out.println(RUNS + " runs of " + CALLS + " calls are answered alike");
    }

    /** Some fronts, people and things, so that there is something to ask for. */
    private void settle() throws ReflectiveOperationException {
        int thick = lot.nextInt(9) + 1;
        call("thick", thick);
        for (int i = lot.nextInt(7); i > 0; i--) {
            call("blows", lot.nextInt(7), lot.nextInt(10), lot.nextInt(10));
        }
        for (int i = lot.nextInt(6); i > 0; i--) {
            call("comes", lot.nextInt(8), lot.nextInt(10), lot.nextInt(24));
        }
        for (int i = lot.nextInt(9); i > 0; i--) {
            call("lies", lot.nextInt(10), lot.nextInt(24));
        }
    }

    private void callByLot(String[] names) throws ReflectiveOperationException {
        int what = lot.nextInt(100);
        if (what < 4) {
            tellACoast();
        } else if (what < 7) {
            tellWays();
        } else if (what < 9) {
            tellAir();
        } else if (what < 11) {
            tellOwners();
        } else {
            String name = names[lot.nextInt(names.length)];
            boolean rare = name.equals("blows") || name.equals("comes") || name.equals("lies") || name.equals("thick");
            if (!rare || lot.nextInt(8) == 0) {
                call(name, argumentsOf(name));
            }
        }
    }

    private int[] argumentsOf(String name) {
        int[][] ranges = ORDINARY.get(name);
        int[] arguments = new int[ranges.length];
        for (int i = 0; i < ranges.length; i++) {
            int least = ranges[i][0];
            int greatest = most(ranges[i][1]);
            int kind = lot.nextInt(40);
            if (kind == 0) {
                arguments[i] = least - 1;
            } else if (kind == 1) {
                arguments[i] = greatest + 1;
            } else if (kind == 2) {
                int[] wild = {Integer.MIN_VALUE, Integer.MAX_VALUE, -9, 61, 100, 1 << 20};
                arguments[i] = wild[lot.nextInt(wild.length)];
            } else {
                long width = Math.max(1L, (long) greatest - least + 1);
                arguments[i] = (int) (least + Math.floorMod(lot.nextLong(), width));
            }
        }
        return arguments;
    }

    private int most(int told) {
        switch (told) {
            case P:
                return model.count(0) - 1;
            case T:
                return model.count(1) - 1;
            case F:
                return model.count(2) - 1;
            default:
                return told;
        }
    }

    private void tellACoast() throws ReflectiveOperationException {
        StringBuilder text = new StringBuilder();
        for (int i = lot.nextInt(6); i >= 0; i--) {
            text.append(statement());
        }
        if (lot.nextInt(3) == 0) {
            String signs = "fptkomh;0123456789 ";
            text.setCharAt(lot.nextInt(text.length()), signs.charAt(lot.nextInt(signs.length())));
        }
        if (lot.nextInt(8) == 0) {
            text.setLength(lot.nextInt(text.length()));
        }
        for (int i = 0; i < text.length(); i++) {
            call("feed", (int) text.charAt(i));
        }
        call("coast");
    }

    private String statement() {
        int people = Math.max(1, model.count(0));
        int things = Math.max(1, model.count(1));
        switch (lot.nextInt(12)) {
            case 0:
                return String.format("f%d%02d;", lot.nextInt(7), lot.nextInt(100));
            case 1:
                return String.format("p%d%d%02d;", lot.nextInt(8), lot.nextInt(10), lot.nextInt(24));
            case 2:
                return String.format("t%d%02d;", lot.nextInt(10), lot.nextInt(24));
            case 3:
            case 4:
                return String.format("k%d;", lot.nextInt(9) + 1);
            case 5:
            case 6:
                return String.format("o%d%d;", lot.nextInt(things), lot.nextInt(4) == 0 ? 9 : lot.nextInt(people));
            case 7:
            case 8:
                return String.format("m%d%02d;", lot.nextInt(people), lot.nextInt(24));
            default:
                return String.format("h%02d;", lot.nextInt(20) + 1);
        }
    }

    /** A row that tells one's way as it is, maybe as it would be if he were another. */
    private void tellWays() throws ReflectiveOperationException {
        if (model.count(0) == 0) {
            return;
        }
        call("clear");
        int person = lot.nextInt(model.count(0));
        Model.Coast coast = model.now.copy();
        if (lot.nextInt(2) == 0) {
            coast.people.get(person).kind = lot.nextInt(8);
        } else if (lot.nextInt(2) == 0) {
            coast.people.get(person).figure = lot.nextInt(10);
        }
        for (int n = lot.nextInt(13); n > 0; n--) {
            call("row", coast.people.get(person).cell);
            coast.go(1);
        }
        call("whatKind", person, 0);
        call("whatKind", person, 1);
    }

    /** A row that tells air as it is, maybe as it would be by another front. */
    private void tellAir() throws ReflectiveOperationException {
        if (model.count(2) == 0) {
            return;
        }
        call("clear");
        int front = lot.nextInt(model.count(2));
        int cell = lot.nextInt(24);
        Model.Coast coast = model.now.copy();
        if (lot.nextInt(2) == 0) {
            coast.fronts.get(front).sort = lot.nextInt(7);
        }
        for (int n = lot.nextInt(13); n > 0; n--) {
            call("row", coast.air(cell));
            coast.hour++;
        }
        call("whichFront", front, cell);
    }

    private void tellOwners() throws ReflectiveOperationException {
        call("clear");
        for (int i = 0; i < model.count(1) && lot.nextInt(9) > 0; i++) {
            int owner = model.thing(i, 2);
            call("row", owner == -9 ? 9 : owner);
        }
        if (lot.nextInt(2) == 0) {
            call("row", lot.nextInt(10));
        }
        call("judge");
    }

    private void call(String name, int... arguments) throws ReflectiveOperationException {
        if (wrong != 0) {
            return;
        }
        Class<?>[] types = new Class<?>[arguments.length];
        Arrays.fill(types, int.class);
        Object[] boxed = Arrays.stream(arguments).boxed().toArray();
        Method ours = OnlyInFog.class.getDeclaredMethod(name, types);
        Method models = Model.class.getDeclaredMethod(name, types);
        long got = ((Number) ours.invoke(program, boxed)).longValue();
        long due = ((Number) models.invoke(model, boxed)).longValue();
        made++;
        calls.append(' ').append(name).append(Arrays.toString(arguments)).append('=').append(got);
        if (got != due) {
            wrong++;
            System.out.println(name + Arrays.toString(arguments) + " answered " + got + ", due is " + due);
        }
    }
}
