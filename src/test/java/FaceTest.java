import java.io.IOException;
import java.lang.reflect.Constructor;
import java.lang.reflect.Field;
import java.lang.reflect.Method;
import java.lang.reflect.Modifier;
import java.nio.file.Files;
import java.nio.file.Path;
import java.util.ArrayList;
import java.util.Arrays;
import java.util.List;
import java.util.Set;
import java.util.TreeSet;
import java.util.regex.Matcher;
import java.util.regex.Pattern;

/**
 * The face is the document's, and the source keeps to what of ../shared/LANGUAGE.md a text shows.
 * Its one argument is the class's source file.
 */
public final class FaceTest {
    private static final String FACE =
            "int feed(1) int coast(0) int person(2) int thing(2) int front(2) int cell(2) int blows(3) "
            + "int comes(3) int lies(2) int thick(1) int owns(2) int stands(2) int carries(2) int hours(1) "
            + "int back(0) int fogThen(2) int then(2) int ownerThen(2) int personThen(3) int when(2) "
            + "int first(0) int clears(1) int stand(3) int kettle(3) int without(2) int swap(1) "
            + "int whatKind(2) int whichFront(2) int two(3) long sun(5) int islands(1) int clearRun(0) "
            + "int way(2) long share(2) int sight(1) int kinds(1) int row(1) int judge(0) int clear(0) "
            + "int lots(3) int image(0) int restore(0) int count(1)";

    /** Each with the rule of LANGUAGE.md that it breaks. */
    private static final String[][] FORBIDDEN = {
        {"->", "2: a lambda or arrow"}, {"::", "2: a method reference"}, {"Exact\\b", "4: an Exact function"},
        {"\\bthrow\\b|\\bthrows\\b|\\btry\\b|\\bcatch\\b|\\bfinally\\b", "6: no call of this face throws"},
        {"\\bassert\\b|\\bsynchronized\\b", "6"}, {"\\bpackage\\b|\\bimport\\b", "4: nothing is imported"},
        {"\\bSystem\\.(?!arraycopy)", "4"}, {"\\bMath\\.(?!max|min|abs)", "4"}, {"\\bInteger\\.(?!bitCount)", "4"},
        {"static\\s*\\{", "5"},
        {"\\bwhile\\s*\\(\\s*true|for\\s*\\(\\s*;\\s*;", "9: no end to be seen"}, {"\\bvar\\b", "3"},
        {"\\bprotected\\b", "1"}, {"\\benum\\b|\\brecord\\b", "not used here"},
    };

    private static int wrong = 0;

    private static void due(String what, Object got, Object want) {
        if (!got.equals(want)) {
            wrong++;
            System.out.println(what + " is " + got + ", due is " + want);
        }
    }

    public static void main(String[] args) throws IOException {
        members();
        if (args.length != 1) {
            due("the argument, the source file,", "missing", "there");
        } else {
            source(Files.readString(Path.of(args[0])));
        }
        System.out.println(wrong == 0 ? "the face is as due" : wrong + " faults of the face");
        if (wrong != 0) {
            System.exit(1);
        }
    }

    private static void members() {
        Class<?> c = OnlyInFog.class;
        due("the class", Modifier.toString(c.getModifiers()), "public final");
        due("its super class", c.getSuperclass(), Object.class);
        List<String> constructors = new ArrayList<>();
        for (Constructor<?> constructor : c.getDeclaredConstructors()) {
            constructors.add(Modifier.toString(constructor.getModifiers()) + constructor.getParameterCount());
        }
        due("the constructors", constructors, List.of("public0"));
        Set<String> face = new TreeSet<>();
        Set<String> faceNames = new TreeSet<>();
        Set<String> privateNames = new TreeSet<>();
        for (Method method : c.getDeclaredMethods()) {
            if (Modifier.isPrivate(method.getModifiers())) {
                privateNames.add(method.getName());
                continue;
            }
            due("the modifiers of " + method.getName(), Modifier.toString(method.getModifiers()), "public");
            for (Class<?> type : method.getParameterTypes()) {
                due("a parameter of " + method.getName(), type, int.class);
            }
            faceNames.add(method.getName());
            face.add(method.getReturnType() + " " + method.getName() + "(" + method.getParameterCount() + ")");
        }
        due("the face", face, new TreeSet<>(Arrays.asList(FACE.split(" (?=int|long)"))));
        for (Class<?> inside : c.getDeclaredClasses()) {
            due(inside + " static", Modifier.isStatic(inside.getModifiers()), true);
            due(inside + " not public", Modifier.isPublic(inside.getModifiers()), false);
            for (Method method : inside.getDeclaredMethods()) {
                privateNames.add(method.getName());
            }
            fields(inside);
        }
        due("classes, twelve at most", c.getDeclaredClasses().length < 12, true);
        privateNames.retainAll(faceNames);
        due("private methods with names of the face", privateNames.toString(), "[]");
        fields(c);
        for (Field field : c.getDeclaredFields()) {
            due(field + " private", Modifier.isPrivate(field.getModifiers()), true);
        }
    }

    private static void fields(Class<?> c) {
        int ofObjects = 0;
        for (Field field : c.getDeclaredFields()) {
            if (Modifier.isStatic(field.getModifiers())) {
                due(field + " final", Modifier.isFinal(field.getModifiers()), true);
            } else {
                ofObjects++;
            }
        }
        due("twenty fields at most in " + c, ofObjects <= 20, true);
    }

    private static void source(String text) {
        String code = text.replaceAll("(?s)/\\*.*?\\*/", "").replaceAll("//[^\n]*", "");
        for (String[] forbidden : FORBIDDEN) {
            Matcher matcher = Pattern.compile(forbidden[0]).matcher(code);
            if (matcher.find()) {
                due("rule " + forbidden[1] + ", what stands in the source,", matcher.group(), "nothing");
            }
        }
        // Every object is made with the object itself: no call makes one.
        Matcher made = Pattern.compile("([^\n]*)\\bnew\\b").matcher(code);
        while (made.find()) {
            boolean inField = made.group(1).contains("final");
            boolean inConstructor = made.group(1).contains("earlier[i] = ");
            due("'new' behind '" + made.group(1).trim() + "' in a field or constructor", inField || inConstructor, true);
        }
        int lines = 0;
        for (String line : code.split("\n")) {
            lines = line.matches("\\s*[\\w\\[\\]<> ]+\\([^;]*\\) \\{") && !line.matches("\\s*(if|for|while|switch|.*else).*")
                    ? 0 : lines + 1;
            due("sixty lines a method, there", lines > 60 && line.matches(" {4}( {4})?\\}") && lines < 70 ? line : "", "");
        }
    }
}
