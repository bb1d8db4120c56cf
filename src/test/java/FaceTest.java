import java.lang.reflect.Executable;
import java.lang.reflect.Field;
import java.lang.reflect.Method;
import java.lang.reflect.Modifier;
import java.nio.file.Files;
import java.nio.file.Path;
import java.util.Arrays;
import java.util.List;
import java.util.Set;
import java.util.TreeSet;
import java.util.regex.Matcher;
import java.util.regex.Pattern;
import java.util.stream.Collectors;

/**
 * The face is the one of the document, and the file keeps to those rules of LANGUAGE.md that can be
 * seen from outside. Wants the paths of the program and of the document.
 */
final class FaceTest {
    private static final String[] RULED_OUT = {"->", "::", "Exact", "finally", "synchronized", "assert", "protected",
        "package ", "catch", "Float.", "Double.", "Math.", "Thread", "Random", "System.out", "nanoTime", "currentTime",
        "getMessage", "hashCode", "toString", "static {", "record ", "instanceof", "Object"};

    public static void main(String[] args) throws Exception {
        String document = Files.readString(Path.of(args[1]));
        theFaceIsTheDocuments(document);
        nothingElseIsSeen();
        namesOfTheFaceStandAlone();
        classesAreSmall();
        theTextKeepsToTheRules(Files.readString(Path.of(args[0])));
        Check.end("FaceTest");
    }

    private static void theFaceIsTheDocuments(String document) {
        Set<String> due = new TreeSet<>();
        String face = document.substring(document.indexOf("public final class"), document.indexOf("## Description"));
        Matcher lines = Pattern.compile("public (\\w+) (\\w+)\\((.*?)\\)( throws (.*?))?;").matcher(face);
        while (lines.find()) {
            String types = lines.group(3).replaceAll("(\\w+) \\w+", "$1").replace(" ", "");
            String thrown = lines.group(5) == null ? "" : lines.group(5).replace(" ", "");
            due.add(lines.group(1) + " " + lines.group(2) + "(" + types + ")" + thrown);
        }
        Set<String> got = new TreeSet<>();
        for (Method method : SparePlanner.class.getDeclaredMethods()) {
            if (Modifier.isPublic(method.getModifiers())) {
                got.add(method.getReturnType() + " " + method.getName() + "(" + names(method.getParameterTypes()) + ")"
                    + names(method.getExceptionTypes()));
            }
        }
        Check.due("the methods of the document", due.size(), 44);
        Check.same("the face", got, due);
        Check.due("public constructors", SparePlanner.class.getConstructors().length, 1);
        Check.due("what the constructor takes", SparePlanner.class.getConstructors()[0].getParameterCount(), 0);
    }

    private static String names(Class<?>[] types) {
        return Arrays.stream(types).map(Class::getSimpleName).collect(Collectors.joining(","));
    }

    private static void nothingElseIsSeen() {
        Check.same("public and final", Modifier.toString(SparePlanner.class.getModifiers()), "public final");
        for (Field field : SparePlanner.class.getDeclaredFields()) {
            Check.same(field.getName() + " is private", Modifier.isPrivate(field.getModifiers()), true);
        }
        for (Method method : SparePlanner.class.getDeclaredMethods()) {
            int modifiers = method.getModifiers();
            boolean isRight = Modifier.isPrivate(modifiers) || Modifier.isPublic(modifiers) && !Modifier.isStatic(modifiers);
            Check.same(method.getName() + " is private or of the face", isRight, true);
        }
        for (Class<?> inside : SparePlanner.class.getDeclaredClasses()) {
            String modifiers = Modifier.toString(inside.getModifiers());
            Check.same(inside.getSimpleName(), modifiers, "private static final");
        }
    }

    private static void namesOfTheFaceStandAlone() {
        List<String> face = Arrays.stream(SparePlanner.class.getDeclaredMethods())
            .filter(method -> Modifier.isPublic(method.getModifiers())).map(Method::getName).toList();
        for (Class<?> holder : classes()) {
            for (Method method : holder.getDeclaredMethods()) {
                boolean isOfTheFace = Modifier.isPublic(method.getModifiers());
                Check.same(method + " has a name of its own", isOfTheFace || !face.contains(method.getName()), true);
            }
        }
    }

    private static List<Class<?>> classes() {
        List<Class<?>> classes = new java.util.ArrayList<>(List.of(SparePlanner.class.getDeclaredClasses()));
        classes.add(SparePlanner.class);
        return classes;
    }

    private static void classesAreSmall() {
        Check.same("at most 12 classes", classes().size() <= 12, true);
        for (Class<?> holder : classes()) {
            int fields = 0;
            for (Field field : holder.getDeclaredFields()) {
                boolean isStatic = Modifier.isStatic(field.getModifiers());
                fields += isStatic ? 0 : 1;
                Check.same(field + " is no static state", !isStatic || Modifier.isFinal(field.getModifiers()), true);
            }
            Check.same(holder.getSimpleName() + " has at most 20 fields", fields <= 20, true);
            for (Executable method : holder.getDeclaredMethods()) {
                Check.same(method + " takes at most 7 parameters", method.getParameterCount() <= 7, true);
            }
        }
    }

    private static void theTextKeepsToTheRules(String text) {
        String code = text.replaceAll("(?s)/\\*.*?\\*/", "").replaceAll("//[^\n]*", "").replaceAll("\"[^\"]*\"", "\"\"");
        for (String word : RULED_OUT) {
            Check.due("'" + word + "' in the program", code.indexOf(word), -1);
        }
        Matcher imports = Pattern.compile("import [^;]*;").matcher(code);
        Check.same("an import", imports.find(), true);
        Check.same("the import", imports.group(), "import java.util.NoSuchElementException;");
        Check.same("another import", imports.find(), false);
        Matcher thrown = Pattern.compile("throw new (\\w+)").matcher(code);
        while (thrown.find()) {
            Check.same(thrown.group(), Set.of("IllegalStateException", "IllegalArgumentException",
                "IndexOutOfBoundsException", "ArithmeticException", "UnsupportedOperationException",
                "NoSuchElementException").contains(thrown.group(1)), true);
        }
        for (String line : text.split("\n")) {
            Check.same("a character of '" + line + "' above 126", line.chars().allMatch(one -> one < 127), true);
        }
        methodsAreShort(text.split("\n"), "    ");
        methodsAreShort(text.split("\n"), "        ");
    }

    private static void methodsAreShort(String[] lines, String indent) {
        int begin = -1;
        for (int i = 0; i < lines.length; i++) {
            if (lines[i].matches(indent + "[^ ].*\\).*\\{")) {
                begin = i;
            } else if (lines[i].equals(indent + "}") && begin >= 0) {
                Check.same("at most 60 lines from line " + (begin + 1), i - begin < 60, true);
                begin = -1;
            }
        }
    }
}
