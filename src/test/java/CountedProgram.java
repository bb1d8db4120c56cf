import java.io.IOException;
import java.nio.file.Files;
import java.nio.file.Path;
import java.util.List;
import java.util.regex.MatchResult;
import java.util.regex.Matcher;
import java.util.regex.Pattern;

/**
 * Writes the program once more, so that an object of it ends the test that asks it for a 513th call:
 * what is answered then is free. Each method of the face gets another name, by which the program
 * itself calls it, and its own name counts the calls from outside. Wants the paths of the program
 * and of what is written.
 */
final class CountedProgram {
    private static final Pattern HEAD = Pattern.compile(
        "(?m)^    public (int|long|float|double) (\\w+)\\(([^)]*)\\)([^{;]*)\\{");
    private static final String COUNTER = """
            private int calls;

            private void countCall() {
                calls++;
                if (calls > 512) {
                    throw new AssertionError("a test asks one object for call " + calls);
                }
            }
        """;

    public static void main(String[] args) throws IOException {
        String counted = withCountedFace(Files.readString(Path.of(args[0])));
        int end = counted.lastIndexOf('}');
        Files.writeString(Path.of(args[1]), counted.substring(0, end) + COUNTER + "}\n");
    }

    private static String withCountedFace(String program) {
        List<String> face = HEAD.matcher(program).results().map(head -> head.group(2)).toList();
        if (face.size() != 44) {
            throw new IllegalStateException("the face has 44 methods, not " + face.size());
        }
        Pattern named = Pattern.compile("(?<![.\\w])(" + String.join("|", face) + ")\\(");
        String renamed = named.matcher(program).replaceAll("$1Itself(");
        return HEAD.matcher(renamed).replaceAll(head -> Matcher.quoteReplacement(countedHead(head)));
    }

    private static String countedHead(MatchResult head) {
        String type = head.group(1);
        String itself = head.group(2);
        String name = itself.replaceFirst("Itself$", "");
        String parameters = head.group(3);
        String rest = head.group(4);
        return "    public " + type + " " + name + "(" + parameters + ")" + rest + "{\n"
            + "        countCall();\n"
            + "        return " + itself + "(" + namesOf(parameters) + ");\n"
            + "    }\n\n"
            + "    private " + type + " " + itself + "(" + parameters + ")" + rest + "{";
    }

    private static String namesOf(String parameters) {
        return parameters.replaceAll("\\w+ (\\w+)", "$1");
    }
}
