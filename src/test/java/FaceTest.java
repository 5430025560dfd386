import java.io.IOException;
import java.lang.reflect.Constructor;
import java.lang.reflect.Field;
import java.lang.reflect.Method;
import java.lang.reflect.Modifier;
import java.nio.file.Files;
import java.nio.file.Path;
import java.util.Arrays;
import java.util.Set;
import java.util.TreeSet;
import java.util.regex.Matcher;
import java.util.regex.Pattern;
import java.util.stream.Collectors;

/** The public face as the document writes it out, name by name and type by type, and nothing beside it. */
public final class FaceTest {
    private static final Path DOCUMENT = Path.of("../shared/DOC.md");
    private static final Pattern BLOCK = Pattern.compile("## The public face\\s+```java\n(.*?)```", Pattern.DOTALL);
    private static final Pattern CONSTANT = Pattern.compile("([A-Z]+) = (-?\\d+)");
    private static final Pattern METHOD = Pattern.compile("public (\\w+) (\\w+)\\((.*?)\\);");
    private static int wrong;

    private static void tell(String what) {
        wrong++;
        System.out.println("face: " + what);
    }

    public static void main(String[] args) throws IOException, IllegalAccessException {
        if (Files.exists(DOCUMENT)) holdDocument(Files.readString(DOCUMENT));
        else System.out.println("FaceTest: " + DOCUMENT + " is not here, its face is not looked up");
        theClass();
        System.out.println("FaceTest: " + (wrong == 0 ? "the face is the document's" : wrong + " wrong"));
        if (wrong != 0) System.exit(1);
    }

    private static void holdDocument(String document) throws IllegalAccessException {
        Matcher block = BLOCK.matcher(document);
        if (!block.find()) {
            tell("the document has no public face");
            return;
        }
        hold("method", methodsTold(block.group(1)), methodsThere());
        hold("constant", constantsTold(block.group(1)), constantsThere());
    }

    private static void hold(String what, Set<String> told, Set<String> there) {
        if (told.isEmpty()) tell("the document tells no " + what);
        for (String t : told) if (!there.contains(t)) tell("the " + what + " '" + t + "' is not there");
        for (String t : there) if (!told.contains(t)) tell("the " + what + " '" + t + "' is not the document's");
    }

    private static Set<String> methodsTold(String face) {
        Set<String> told = new TreeSet<>();
        for (Matcher m = METHOD.matcher(face); m.find(); ) {
            // Of each parameter its type is the face, its name is not.
            String types = m.group(3).replaceAll(" \\w+(,|$)", "$1");
            told.add(m.group(1) + " " + m.group(2) + "(" + types + ")");
        }
        return told;
    }

    private static Set<String> methodsThere() {
        Set<String> there = new TreeSet<>();
        for (Method m : LastPenny.class.getDeclaredMethods()) {
            if (Modifier.isPrivate(m.getModifiers()) || m.isSynthetic()) continue;
            String types = Arrays.stream(m.getParameterTypes()).map(Class::getName).collect(Collectors.joining(", "));
            there.add(m.getReturnType().getName() + " " + m.getName() + "(" + types + ")");
            if (m.getModifiers() != Modifier.PUBLIC) tell(m.getName() + " is not just public");
            if (m.getExceptionTypes().length != 0) tell(m.getName() + " tells of exceptions");
        }
        return there;
    }

    private static Set<String> constantsTold(String face) {
        Set<String> told = new TreeSet<>();
        for (Matcher m = CONSTANT.matcher(face); m.find(); ) told.add("int " + m.group(1) + " = " + m.group(2));
        return told;
    }

    private static Set<String> constantsThere() throws IllegalAccessException {
        Set<String> there = new TreeSet<>();
        for (Field f : LastPenny.class.getDeclaredFields()) {
            if (Modifier.isPrivate(f.getModifiers()) || f.isSynthetic()) continue;
            boolean constant = f.getModifiers() == (Modifier.PUBLIC | Modifier.STATIC | Modifier.FINAL);
            if (!constant) tell(f.getName() + " is no constant");
            else there.add(f.getType().getName() + " " + f.getName() + " = " + f.get(null));
        }
        return there;
    }

    private static void theClass() {
        if (LastPenny.class.getModifiers() != (Modifier.PUBLIC | Modifier.FINAL)) tell("the class is not public and final");
        if (!LastPenny.class.getPackageName().isEmpty()) tell("the class has a package");
        if (LastPenny.class.getSuperclass() != Object.class) tell("the class extends another");
        if (LastPenny.class.getInterfaces().length != 0) tell("the class implements something");
        Constructor<?>[] all = LastPenny.class.getDeclaredConstructors();
        if (all.length != 1 || all[0].getModifiers() != Modifier.PUBLIC || all[0].getParameterCount() != 0) tell("the constructor");
        for (Class<?> inside : LastPenny.class.getDeclaredClasses()) {
            int flags = inside.getModifiers();
            if (!Modifier.isStatic(flags) || Modifier.isPublic(flags) || Modifier.isProtected(flags)) tell("the class inside " + inside.getName());
        }
    }
}
