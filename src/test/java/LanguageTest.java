import java.nio.file.Files;
import java.nio.file.Path;
import java.util.regex.Matcher;
import java.util.regex.Pattern;

/** What of LANGUAGE.md can be seen in the words of the source. */
final class LanguageTest {
    public static void main(String[] args) throws Exception {
        String source = Files.readString(Path.of("src/main/java/PitInspector.java"));
        for (char sign : source.toCharArray()) {
            if (sign != '\n' && (sign < 32 || sign > 126)) {
                Due.due("a sign that is not plain: " + (int) sign, 1, 0);
            }
        }
        String code = source.replaceAll("(?s)/\\*.*?\\*/", " ").replaceAll("//[^\n]*", " ")
            .replaceAll("\"[^\"]*\"", "\"\"").replaceAll("'.'", "0");
        String[] never = {"\\bthrow\\b", "\\bthrows\\b", "\\btry\\b", "\\bcatch\\b", "\\bfinally\\b", "\\bsynchronized\\b",
            "\\bassert\\b", "->", "::", "\\bpackage\\b", "\\bprotected\\b", "\\bvolatile\\b", "Exact\\b", "\\bObject\\b",
            "\\bSystem\\.(?!arraycopy)", "\\bArrays\\.(?!fill|copyOf|copyOfRange)", "\\bimport (?!java\\.util\\.Arrays;)",
            "\\bstatic \\{", "\\bvar\\b", "\\bvoid main\\b", "\\bnew [A-Z]\\w*\\([^)]*\\) *\\{", "\\.equals\\(",
            "\\bhashCode\\b", "\\btoString\\b", "\\bnative\\b", "\\bThread\\b", "\\bdouble\\b", "\\bfloat\\b"};
        for (String word : never) {
            Matcher m = Pattern.compile(word).matcher(code);
            Due.due("not in the language: " + word, m.find(), false);
        }
        Matcher classes = Pattern.compile("\\b(class|enum|record|interface)\\s+[A-Z]").matcher(code);
        int many = 0;
        while (classes.find()) {
            many++;
        }
        Due.due("at most twelve classes", many <= 12, true);
        methods(code);
        selfCalls(code);
        fields();
        Due.end("LanguageTest");
    }

    /** At most seven parameters and some sixty lines; no private method bears a public one's name. */
    private static void methods(String code) throws Exception {
        for (Class<?> c : allClasses()) {
            for (java.lang.reflect.Method m : c.getDeclaredMethods()) {
                boolean face = c == PitInspector.class && java.lang.reflect.Modifier.isPublic(m.getModifiers());
                Due.due("parameters of " + m.getName(), m.getParameterCount() <= 7, true);
                for (java.lang.reflect.Method p : PitInspector.class.getDeclaredMethods()) {
                    boolean publicOne = java.lang.reflect.Modifier.isPublic(p.getModifiers());
                    if (!face && publicOne) {
                        Due.due("the name " + m.getName(), m.getName().equals(p.getName()), false);
                    }
                }
            }
        }
        int length = 0;
        for (String line : code.split("\n")) {
            boolean begins = line.matches(" {4,8}\\w.*\\) \\{");
            length = begins ? 1 : length + 1;
            if (line.matches(" {4,8}\\}")) {
                Due.due("a method's length up to " + line, length <= 60 || !line.matches(" {8}\\}"), true);
            }
        }
    }

    /** A method that calls itself is static; others that recur call one another. */
    private static void selfCalls(String code) {
        Pattern head = Pattern.compile("(?m)^ {4,8}((?:private |static |public |final )*)\\w+(?:\\[\\])* (\\w+)\\([^)]*\\) \\{$");
        Matcher m = head.matcher(code);
        int methods = 0;
        while (m.find()) {
            int end = code.indexOf("\n        }\n", m.end());
            int endOfFace = code.indexOf("\n    }\n", m.end());
            String body = code.substring(m.end(), end < 0 || endOfFace < end ? endOfFace : end);
            boolean callsItself = Pattern.compile("(?<![.\\w])" + m.group(2) + "\\(").matcher(body).find();
            Due.due("calls itself, and is not static: " + m.group(2), callsItself && !m.group(1).contains("static"), false);
            methods++;
        }
        Due.due("methods were found", methods > 150, true);
    }

    private static void fields() {
        for (Class<?> c : allClasses()) {
            int many = 0;
            for (java.lang.reflect.Field f : c.getDeclaredFields()) {
                boolean isStatic = java.lang.reflect.Modifier.isStatic(f.getModifiers());
                many += isStatic ? 0 : 1;
                Due.due("static and final: " + f.getName(),
                    !isStatic || java.lang.reflect.Modifier.isFinal(f.getModifiers()), true);
                boolean isPrivate = java.lang.reflect.Modifier.isPrivate(f.getModifiers());
                Due.due("private: " + f.getName(),
                    isPrivate || f.getName().equals("NONE") || c != PitInspector.class, true);
            }
            Due.due("some twenty fields in " + c.getName(), many <= 20, true);
        }
    }

    private static java.util.List<Class<?>> allClasses() {
        java.util.List<Class<?>> all = new java.util.ArrayList<>(java.util.List.of(PitInspector.class.getDeclaredClasses()));
        all.add(PitInspector.class);
        return all;
    }
}
