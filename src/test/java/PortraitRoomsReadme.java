import java.lang.reflect.Method;
import java.lang.reflect.Modifier;
import java.nio.file.Files;
import java.nio.file.Path;
import java.util.ArrayList;
import java.util.Arrays;
import java.util.HashMap;
import java.util.List;
import java.util.Map;
import java.util.regex.Matcher;
import java.util.regex.Pattern;

/** README.md is what a caller reads first: its example, its constants and its table must be true. */
public final class PortraitRoomsReadme {
    private static final Pattern EXAMPLE =
        Pattern.compile("(?:int (\\w+) = )?rooms\\.(\\w+)\\((.*)\\);\\s*// (-?\\w+)(:.*)?");
    private static final Pattern ROW = Pattern.compile("\\| `(\\w+)\\((.*)\\)` \\| (.*) \\| (.*) \\|");
    private static final Pattern CONSTANT = Pattern.compile("- `(\\w+)` is (-\\d+)[.,].*");
    private static int wrong = 0;

    private static void fault(String words) {
        wrong++;
        System.out.println("README.md: " + words);
    }

    private static void example(List<String> lines) {
        int from = lines.indexOf("```java") + 1;
        int to = lines.indexOf("```");
        if (from < 1 || to < from + 2 || !lines.get(from).equals("PortraitRooms rooms = new PortraitRooms();")) {
            fault("there is no example that makes the rooms");
            return;
        }
        PortraitRooms rooms = new PortraitRooms();
        Map<String, Integer> names = new HashMap<>();
        for (String line : lines.subList(from + 1, to)) {
            exampleLine(line, rooms, names);
        }
    }

    private static void exampleLine(String line, PortraitRooms rooms, Map<String, Integer> names) {
        Matcher m = EXAMPLE.matcher(line);
        if (!m.matches()) {
            fault("can't be read: " + line);
            return;
        }
        StringBuilder words = new StringBuilder(m.group(2));
        for (String argument : m.group(3).isEmpty() ? new String[0] : m.group(3).split(", ")) {
            Integer named = names.get(argument);
            words.append(' ').append(named != null ? named.toString() : argument.replace("PortraitRooms.", ""));
        }
        int got = Words.of(words.toString()).answer(rooms);
        if (m.group(1) != null) {
            names.put(m.group(1), got);
        }
        if (got != answerOf(m.group(4))) {
            fault(line + " -- but it answered " + got);
        }
    }

    private static int answerOf(String word) {
        if (word.equals("true") || word.equals("false")) {
            return word.equals("true") ? 1 : 0;
        }
        return Words.number(word);
    }

    private static void constants(List<String> lines) throws IllegalAccessException, NoSuchFieldException {
        List<String> told = new ArrayList<>();
        for (String line : lines) {
            Matcher m = CONSTANT.matcher(line);
            if (m.matches()) {
                told.add(m.group(1));
                int value = PortraitRooms.class.getField(m.group(1)).getInt(null);
                if (value != Integer.parseInt(m.group(2))) {
                    fault(m.group(1) + " is " + value);
                }
            }
        }
        if (!told.equals(List.of("NONE", "DOUBT"))) {
            fault("the constants are told as " + told);
        }
    }

    /** Every public method has a row, and one that is given what can't be answers as the row tells. */
    private static void table(List<String> lines) throws ReflectiveOperationException {
        Map<String, String> refusals = new HashMap<>();
        for (String line : lines) {
            Matcher m = ROW.matcher(line);
            if (m.matches()) {
                int parameters = m.group(2).isEmpty() ? 0 : m.group(2).split(", ").length;
                if (refusals.put(m.group(1) + parameters, m.group(4)) != null) {
                    fault(m.group(1) + " has two rows");
                }
            }
        }
        for (Method method : PortraitRooms.class.getDeclaredMethods()) {
            if (Modifier.isPublic(method.getModifiers())) {
                String told = refusals.remove(method.getName() + method.getParameterCount());
                String answered = refusedBy(method);
                if (told == null || !told.endsWith("`" + answered + "`")) {
                    fault(method.getName() + " refuses by " + answered + ", but is told to by " + told);
                }
            }
        }
        if (!refusals.isEmpty()) {
            fault("there are no such calls: " + refusals.keySet());
        }
    }

    private static String refusedBy(Method method) throws ReflectiveOperationException {
        PortraitRooms rooms = new PortraitRooms();
        for (int i = 0; i < 6; i++) {
            rooms.hand();
        }
        Object[] none = new Object[method.getParameterCount()];
        Arrays.fill(none, Integer.MIN_VALUE);
        Object got = method.invoke(rooms, none);
        return got.equals(PortraitRooms.NONE) ? "NONE" : got.toString();
    }

    public static void main(String[] args) throws Exception {
        List<String> lines = Files.readAllLines(Path.of("README.md"));
        example(lines);
        constants(lines);
        table(lines);
        System.out.println(wrong == 0 ? "README.md is true" : wrong + " faults in README.md");
        if (wrong != 0) {
            System.exit(1);
        }
    }
}
