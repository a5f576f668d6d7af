import java.io.IOException;
import java.lang.reflect.Member;
import java.lang.reflect.Method;
import java.lang.reflect.Modifier;
import java.nio.file.Files;
import java.nio.file.Path;
import java.util.ArrayList;
import java.util.Arrays;
import java.util.HashSet;
import java.util.List;
import java.util.Set;
import java.util.TreeSet;
import java.util.regex.Pattern;

/** The rules of LANGUAGE.md that can be seen from the class and its text. */
final class FormTest {
    private static final Check CHECK = new Check("FormTest");
    private static final Set<String> FACE = new TreeSet<>(List.of("variables", "factor", "row", "whole", "solve", "state",
            "basic", "value", "told", "digits", "witness", "setWitness", "judgeWitness", "node", "multiplier",
            "setMultiplier", "setSplit", "judgeTree"));
    private static final Set<String> CALLS = new TreeSet<>(List.of("variables(int)", "factor(int, int)", "row(int, int)",
            "whole(int, boolean)", "solve(int)", "state(int)", "basic(int)", "value(int)", "told(int, int)",
            "digits(int, int)", "witness()", "setWitness(int, int, int)", "judgeWitness()", "node(int, int)",
            "multiplier(int, int, int)", "setMultiplier(int, int, int, int, int)", "setSplit(int, int)", "judgeTree()"));
    private static final List<String> FORBIDDEN = List.of("\\bthrow\\b", "\\btry\\b", "\\bcatch\\b", "\\bsynchronized\\b",
            "\\bassert\\b", "->", "::", "\\bimport\\b", "\\bpackage\\b", "\\bprotected\\b", "Exact\\(", "\\bnew \\w+\\(.*\\) *\\{",
            "\\bString\\b", "\\bfloat\\b", "\\bdouble\\b", "\\bequals\\b", "\\bhashCode\\b", "\\btoString\\b", "System\\.",
            "Random", "\\bstatic \\{", "\\bwhile \\(true\\)", "for \\(;;\\)");

    public static void main(String[] args) throws IOException {
        face();
        inside();
        text();
        CHECK.end();
    }

    private static void face() {
        Class<?> type = RowSolver.class;
        CHECK.due("public and final", type.getModifiers(), Modifier.PUBLIC | Modifier.FINAL);
        CHECK.due("constructors", type.getDeclaredConstructors().length, 1);
        CHECK.due("public constructors", type.getConstructors().length, 1);
        Set<String> open = new TreeSet<>();
        for (var method : type.getDeclaredMethods()) {
            boolean isPublic = Modifier.isPublic(method.getModifiers());
            CHECK.due(method.getName() + " is public or private", isPublic || isPrivate(method) ? 1 : 0, 1);
            CHECK.due(method.getName() + "'s name", FACE.contains(method.getName()) == isPublic ? 1 : 0, 1);
            if (isPublic) {
                open.add(asCall(method));
                CHECK.due(method.getName() + " answers", method.getReturnType().getName(), "int");
                CHECK.due(method.getName() + " is of an object", Modifier.isStatic(method.getModifiers()) ? 1 : 0, 0);
                CHECK.due(method.getName() + " names no exceptions", method.getExceptionTypes().length, 0);
            }
        }
        CHECK.due("the public methods", open.toString(), CALLS.toString());
        Set<String> fields = new HashSet<>();
        for (var field : type.getDeclaredFields()) {
            boolean isPublic = Modifier.isPublic(field.getModifiers());
            CHECK.due(field.getName() + " is public or private", isPublic || isPrivate(field) ? 1 : 0, 1);
            boolean isFinal = Modifier.isFinal(field.getModifiers());
            CHECK.due(field.getName() + " is no static state", !Modifier.isStatic(field.getModifiers()) || isFinal ? 1 : 0, 1);
            if (isPublic) {
                fields.add(field.getName());
            }
        }
        CHECK.due("the public constants", fields.equals(Set.of("BAD", "NONE")) ? 1 : 0, 1);
    }

    private static String asCall(Method method) {
        List<String> parameters = new ArrayList<>();
        for (Class<?> type : method.getParameterTypes()) {
            parameters.add(type.getName());
        }
        return method.getName() + "(" + String.join(", ", parameters) + ")";
    }

    private static boolean isPrivate(Member member) {
        return Modifier.isPrivate(member.getModifiers());
    }

    private static void inside() {
        Class<?>[] classes = RowSolver.class.getDeclaredClasses();
        CHECK.due("at most eleven classes inside", Math.max(11, classes.length), 11);
        for (Class<?> type : classes) {
            CHECK.due(type + " is static", Modifier.isStatic(type.getModifiers()) ? 1 : 0, 1);
            CHECK.due(type + " is not public", Modifier.isPublic(type.getModifiers()) ? 1 : 0, 0);
            CHECK.due(type + "'s fields", Math.max(20, type.getDeclaredFields().length), 20);
            for (var method : type.getDeclaredMethods()) {
                CHECK.due(method + " bears a public name", FACE.contains(method.getName()) ? 1 : 0, 0);
                CHECK.due(method + "'s parameters", Math.max(7, method.getParameterCount()), 7);
            }
        }
    }

    private static void text() throws IOException {
        List<String> lines = new ArrayList<>(Files.readAllLines(Path.of("src/main/java/RowSolver.java")));
        boolean comment = false;
        for (int k = 0; k < lines.size(); k++) {
            String line = lines.get(k);
            comment |= line.strip().startsWith("/*");
            boolean isComment = comment || line.strip().startsWith("//");
            comment &= !line.contains("*/");
            CHECK.due("length of line " + (k + 1), Math.max(120, line.length()), 120);
            for (String word : FORBIDDEN) {
                boolean found = !isComment && Pattern.compile(word).matcher(line).find();
                CHECK.due(word + " in line " + (k + 1), found ? 1 : 0, 0);
            }
        }
        int longest = Arrays.stream(String.join("\n", lines).split("\n    (    )?}\n")).mapToInt(
                part -> part.substring(part.lastIndexOf("\n\n") + 1).split("\n").length).max().orElse(0);
        CHECK.due("lines of the longest method", Math.max(60, longest), 60);
    }
}
