import java.lang.reflect.Method;
import java.lang.reflect.Modifier;
import java.nio.file.Files;
import java.nio.file.Path;
import java.util.Set;
import java.util.TreeSet;
import java.util.regex.Matcher;
import java.util.regex.Pattern;

/** The run of calls that README.md tells answers as is told there, and each call of the face stands in it. */
final class ReadmeTest {
    private static final Pattern CALL = Pattern.compile("office\\.(\\w+)\\((.*?)\\); +// ([-\\w]+)(:.*)?");

    public static void main(String[] args) throws Exception {
        PitInspector office = new PitInspector();
        Set<String> told = new TreeSet<>();
        for (String line : Files.readAllLines(Path.of("README.md"))) {
            Matcher m = CALL.matcher(line);
            if (m.matches()) {
                told.add(m.group(1));
                Due.due(line, answer(office, m.group(1), m.group(2)), number(m.group(3)));
            } else {
                Due.due("a call without its answer: " + line, line.startsWith("office."), false);
            }
        }
        for (Method method : PitInspector.class.getDeclaredMethods()) {
            if (Modifier.isPublic(method.getModifiers())) {
                Due.due("README.md tells " + method.getName(), told.contains(method.getName()), true);
            }
        }
        Due.end("ReadmeTest");
    }

    private static long answer(PitInspector office, String name, String list) throws Exception {
        String[] words = list.isEmpty() ? new String[0] : list.split(", ");
        for (Method method : PitInspector.class.getDeclaredMethods()) {
            if (Modifier.isPublic(method.getModifiers()) && method.getName().equals(name)) {
                Object[] args = new Object[words.length];
                for (int a = 0; a < words.length; a++) {
                    boolean isFlag = method.getParameterTypes()[a] == boolean.class;
                    args[a] = isFlag ? (Object) Boolean.valueOf(words[a]) : (Object) (int) number(words[a]);
                }
                return number(method.invoke(office, args).toString());
            }
        }
        throw new IllegalArgumentException("no such call: " + name);
    }

    private static long number(String word) {
        switch (word) {
            case "true": return 1;
            case "false": return 0;
            case "PitInspector.NONE": return PitInspector.NONE;
            default: return Long.decode(word);
        }
    }
}
