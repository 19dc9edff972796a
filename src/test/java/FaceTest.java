import java.io.IOException;
import java.lang.reflect.Field;
import java.lang.reflect.Method;
import java.lang.reflect.Modifier;
import java.nio.file.Files;
import java.nio.file.Path;
import java.util.ArrayList;
import java.util.List;
import java.util.Set;
import java.util.TreeSet;
import java.util.regex.Matcher;
import java.util.regex.Pattern;

/** The public face of the document, and the rules of LANGUAGE.md that can be seen without much reading. */
final class FaceTest {
    private static final Checks checks = new Checks();
    private static final String[] FACE = {"set 2", "carrier 2", "takeOut 1", "run 1", "snap 1", "tie 1", "refill 1",
        "of 2", "at 2", "around 1", "count 1", "why 0", "meeting 1", "free 0", "firstFree 0", "period 0", "lasts 0",
        "put 1", "wipe 0", "fault 0", "carryOut 0", "undo 0", "save 1", "restore 1"};
    private static final String[] CONSTANTS = {"NO_SUCH", "BAD_VALUE", "BAD_TEXT", "TOO_MANY", "NOT_POSSIBLE", "NONE",
        "PAIRS", "PULL", "FILL"};

    public static void main(String[] args) throws IOException {
        constants();
        members();
        names();
        sizes();
        words();
        anyArguments();
        checks.end();
    }

    private static void constants() {
        int[] got = {BraidHorns.NO_SUCH, BraidHorns.BAD_VALUE, BraidHorns.BAD_TEXT, BraidHorns.TOO_MANY,
            BraidHorns.NOT_POSSIBLE, BraidHorns.NONE, BraidHorns.PAIRS, BraidHorns.PULL, BraidHorns.FILL};
        int[] due = {-1, -2, -3, -4, -5, -6, 0, 1, 2};
        for (int i = 0; i < due.length; i++) {
            checks.due(CONSTANTS[i], got[i], due[i]);
        }
    }

    private static void members() {
        Class<?> type = BraidHorns.class;
        checks.due("public and final", type.getModifiers(), Modifier.PUBLIC | Modifier.FINAL);
        Set<String> methods = new TreeSet<>();
        for (Method method : type.getDeclaredMethods()) {
            if (!Modifier.isPrivate(method.getModifiers())) {
                checks.due(method + " gives an int", method.getReturnType() == int.class ? 1 : 0, 1);
                methods.add(method.getName() + " " + method.getParameterCount());
            }
        }
        same("methods", methods, Set.of(FACE));
        Set<String> fields = new TreeSet<>();
        for (Field field : type.getDeclaredFields()) {
            if (!Modifier.isPrivate(field.getModifiers())) {
                fields.add(field.getName());
            }
        }
        same("fields", fields, Set.of(CONSTANTS));
        checks.due("constructors", type.getDeclaredConstructors().length, 1);
    }

    private static void same(String what, Set<String> got, Set<String> due) {
        checks.due(what + " " + got, got.equals(due) ? 1 : 0, 1);
    }

    /** No method inside bears the name of a public one. */
    private static void names() {
        Set<String> face = new TreeSet<>();
        for (String method : FACE) {
            face.add(method.substring(0, method.indexOf(' ')));
        }
        for (Class<?> inside : BraidHorns.class.getDeclaredClasses()) {
            checks.due(inside + " is static", Modifier.isStatic(inside.getModifiers()) ? 1 : 0, 1);
            for (Method method : inside.getDeclaredMethods()) {
                checks.due(method + " bears a public name", face.contains(method.getName()) ? 1 : 0, 0);
            }
        }
    }

    /** Rules 5 and 11: static fields are final, parameters are seven at most, fields some twenty, classes twelve. */
    private static void sizes() {
        List<Class<?>> types = new ArrayList<>(List.of(BraidHorns.class.getDeclaredClasses()));
        types.add(BraidHorns.class);
        checks.due("more than twelve classes", types.size() > 12 ? 1 : 0, 0);
        for (Class<?> type : types) {
            int own = 0;
            for (Field field : type.getDeclaredFields()) {
                boolean isStatic = Modifier.isStatic(field.getModifiers());
                own += isStatic ? 0 : 1;
                checks.due(field + " can be changed", isStatic && !Modifier.isFinal(field.getModifiers()) ? 1 : 0, 0);
            }
            checks.due("more than twenty fields in " + type, own > 20 ? 1 : 0, 0);
            for (Method method : type.getDeclaredMethods()) {
                checks.due("parameters of " + method, method.getParameterCount() > 7 ? 1 : 0, 0);
            }
        }
    }

    private static void words() throws IOException {
        String source = Files.readString(Path.of("src/main/java/BraidHorns.java"));
        String code = source.replaceAll("(?s)/\\*.*?\\*/", "").replaceAll("//.*", "");
        Matcher matcher = Pattern.compile("\\b(throw|throws|try|catch|synchronized|assert|import|package|"
            + "equals|hashCode|toString|System\\.(?!arraycopy)\\w+|\\w+Exact)\\b|->|::|\"").matcher(code);
        while (matcher.find()) {
            checks.due("the word " + matcher.group(), 1, 0);
        }
    }

    /** Rule 7: no call ever throws; an answer below NONE would be none of the document's. */
    private static void anyArguments() {
        int[] some = {Integer.MIN_VALUE, -7, -1, 0, 1, 2, 3, 4, 5, 9, 10, 11, 12, 14, 15, 48, 99, 100, 1 << 30,
            Integer.MAX_VALUE};
        BraidHorns x = new BraidHorns();
        x.set(BraidHorns.PAIRS, 6);
        for (int a : some) {
            for (int b : some) {
                int[] answers = {x.carrier(a, b), x.of(a, b), x.at(a, b), x.set(a, b), x.snap(b), x.around(b),
                    x.count(b), x.meeting(b), x.tie(b), x.refill(a), x.run(b), x.save(b), x.restore(b), x.takeOut(b),
                    x.free(), x.firstFree(), x.period(), x.lasts(), x.why(), x.put((long) a << 32 | b), x.fault(),
                    x.carryOut()};
                for (int answer : answers) {
                    checks.due("an answer of " + answer, answer < BraidHorns.NONE ? 1 : 0, 0);
                }
            }
        }
    }
}
