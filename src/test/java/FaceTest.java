import java.io.IOException;
import java.lang.reflect.Constructor;
import java.lang.reflect.Field;
import java.lang.reflect.Method;
import java.lang.reflect.Modifier;
import java.nio.file.Files;
import java.nio.file.Path;
import java.util.ArrayList;
import java.util.Arrays;
import java.util.List;
import java.util.TreeSet;
import java.util.regex.Matcher;
import java.util.regex.Pattern;

/** The face is the document's and no other, and the source keeps to the rules of the language that can be read off it. */
public final class FaceTest {
    private static final Check c = new Check();
    private static final String[] CONSTANTS = {"NONE", "MISSING", "BEYOND", "BELOW", "KIND", "COPY", "RING", "UNTOLD",
        "FEW", "OVER", "WAITING", "NO", "FULL"};
    private static final String[] FORBIDDEN = {"throw", "throws", "try", "catch", "synchronized", "assert", "volatile",
        "transient", "native", "protected", "Object", "hashCode", "package", "Exact", "NaN", "var"};

    public static void main(String[] args) throws IOException, ReflectiveOperationException {
        constants();
        methodsAreThoseOfTheDocument();
        constructorIsPublic();
        membersOfTheClass();
        classesInside();
        words();
        c.end();
    }

    private static void constants() throws ReflectiveOperationException {
        for (int i = 0; i < CONSTANTS.length; i++) {
            c.due(CONSTANTS[i], LadderDesk.class.getField(CONSTANTS[i]).getInt(null), -1 - i);
        }
        c.due("how many", LadderDesk.class.getFields().length, CONSTANTS.length);
    }

    private static void methodsAreThoseOfTheDocument() throws IOException {
        String document = Files.readString(Path.of("../shared/DOC.md"));
        Matcher m = Pattern.compile("    public (int|long) (\\w+)\\(([^)]*)\\);").matcher(document);
        TreeSet<String> due = new TreeSet<>();
        while (m.find()) {
            String types = m.group(3).replaceAll(" \\w+(,|$)", "$1").replace(" ", "");
            due.add(m.group(1) + " " + m.group(2) + "(" + types + ")");
        }
        TreeSet<String> got = new TreeSet<>();
        for (Method method : LadderDesk.class.getDeclaredMethods()) {
            if (Modifier.isPublic(method.getModifiers())) {
                List<String> types = new ArrayList<>();
                Arrays.stream(method.getParameterTypes()).forEach(t -> types.add(t.getName()));
                got.add(method.getReturnType() + " " + method.getName() + "(" + String.join(",", types) + ")");
            }
        }
        c.due("how many", due.size(), 39);
        c.dueThat("methods " + got + " are " + due, got.equals(due));
    }

    private static void constructorIsPublic() {
        Constructor<?>[] all = LadderDesk.class.getDeclaredConstructors();
        c.due("constructors", all.length, 1);
        c.dueThat("public, without parameters",
            Modifier.isPublic(all[0].getModifiers()) && all[0].getParameterCount() == 0);
        c.dueThat("final", Modifier.isFinal(LadderDesk.class.getModifiers()));
    }

    private static void membersOfTheClass() {
        TreeSet<String> open = new TreeSet<>();
        for (Method m : LadderDesk.class.getDeclaredMethods()) {
            if (Modifier.isPublic(m.getModifiers())) {
                open.add(m.getName());
            } else {
                c.dueThat(m + " is private", Modifier.isPrivate(m.getModifiers()));
            }
        }
        for (Field f : LadderDesk.class.getDeclaredFields()) {
            boolean isConstant = Arrays.asList(CONSTANTS).contains(f.getName());
            c.dueThat(f + " is private", isConstant || Modifier.isPrivate(f.getModifiers()));
        }
        for (Class<?> inside : LadderDesk.class.getDeclaredClasses()) {
            for (Method m : inside.getDeclaredMethods()) {
                c.dueThat(m + " bears a name of its own", !open.contains(m.getName()));
                c.dueThat(m + " takes seven at most", m.getParameterCount() <= 7);
            }
        }
    }

    private static void classesInside() {
        Class<?>[] inside = LadderDesk.class.getDeclaredClasses();
        c.dueThat("twelve classes at most", inside.length < 12);
        for (Class<?> one : inside) {
            c.dueThat(one + " is static", Modifier.isStatic(one.getModifiers()));
            c.dueThat(one + " is not public", !Modifier.isPublic(one.getModifiers()));
            int fields = 0;
            for (Field f : one.getDeclaredFields()) {
                boolean isStatic = Modifier.isStatic(f.getModifiers());
                fields += isStatic ? 0 : 1;
                c.dueThat(f + " is final, if it is static", !isStatic || Modifier.isFinal(f.getModifiers()));
            }
            c.dueThat(one + " has twenty fields at most", fields <= 20);
        }
    }

    private static void words() throws IOException {
        String source = Files.readString(Path.of("src/main/java/LadderDesk.java"));
        String code = source.replaceAll("(?s)/\\*.*?\\*/", " ").replaceAll("//[^\n]*", " ");
        for (String word : FORBIDDEN) {
            c.dueThat("no " + word, !Pattern.compile("\\b" + word + "\\b").matcher(code).find());
        }
        c.dueThat("no lambda", !code.contains("->"));
        c.dueThat("no method reference", !code.contains("::"));
        c.dueThat("no text", !code.contains("\""));
        Matcher imports = Pattern.compile("import ([\\w.]+);").matcher(code);
        while (imports.find()) {
            c.dueThat("import " + imports.group(1), imports.group(1).equals("java.util.Arrays"));
        }
        c.dueThat("characters 0 to 255", source.chars().allMatch(ch -> ch < 256));
    }
}
