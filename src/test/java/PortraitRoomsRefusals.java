import java.util.ArrayList;
import java.util.List;
import java.util.Set;
import java.util.TreeSet;

/**
 * "What is refused changes nothing", and asking changes nothing either: behind every step of some
 * stories each call of a pool is made, and if it is refused (or only asks), the rooms must answer
 * ever after as their twins do, whom nobody asked it.
 */
public final class PortraitRoomsRefusals {
    private static final int MOST_CALLS = 512;
    private static final Set<String> CHANGING = Set.of("list", "dry", "hand", "sitter", "picture", "go", "book",
        "unbook", "paint", "pay", "trace", "habit", "margin", "strokes");
    private static final String[] REFUSALS_DUE = {
        "book 0", "dry 0", "go -1", "habit 0", "hand -1", "list 0", "margin 0", "paint -1", "paint 1", "paint 2",
        "paint 3", "paint 4", "paint 5", "paint 6", "pay -1", "picture -1", "sitter -1", "strokes 0", "trace 0",
        "unbook 0"};
    private static final Set<String> refusalsSeen = new TreeSet<>();
    private static int checked = 0;
    private static int wrong = 0;

    private static final String SEASON = "sitter 0 5; sitter 0 1; sitter 2 3; list 0 0 101; list 1 1 55; hand; hand;"
        + "picture 0 0 22212 2; picture 1 0 10200 2; picture 2 1 20012 -1; book 0 0 0; book 2 0 2; paint 0 0 0;"
        + "paint 0 2 1; paint 2 4 1; paint 0 3 1; dry 4 2; dry 2 3; dry 0 1; habit 0 1234; habit 1 1257;"
        + "strokes 0 2 1235; strokes 2 4 3333; trace 0 7; trace 1 6; trace 2 3; margin 9; book 1 1 0; book 0 1 1;"
        + "book 2 2 2; pay 0 20; go 1; paint 2 4 2; paint 1 0 0; paint 1 2 0; paint 0 4 0; unbook 2 2; go 1;"
        + "paint 2 4 2; paint 1 2 2; book 0 5 0; book 2 2 2; paint 2 0 0; paint 0 1 1; paint 0 1 2; paint 0 2 2; go 3;"
        + "paint 1 2 1; paint 0 2 1; paint 0 0 0; paint 0 4 0; pay 1 101; go 1; paint 0 2 1; pay 0 81; go 359;"
        + "list 1 0 9999; book 2 365 2; paint 2 0 0; paint 2 3 1";

    private static List<Words> calls(String lines) {
        List<Words> all = new ArrayList<>();
        for (String line : lines.split(";")) {
            all.add(Words.of(line));
        }
        return all;
    }

    /** The line with every row of the arguments in its place: each argument is one of its values. */
    private static void grid(List<Words> pool, String name, String... values) {
        List<String> lines = new ArrayList<>(List.of(name));
        for (String someValues : values) {
            List<String> longer = new ArrayList<>();
            for (String line : lines) {
                for (String value : someValues.split(" ")) {
                    longer.add(line + " " + value);
                }
            }
            lines = longer;
        }
        for (String line : lines) {
            pool.add(Words.of(line));
        }
    }

    private static List<Words> pool() {
        String pictures = "-1 0 1 2 3 40";
        String days = "MIN -1 0 1 2 4 5 365 20000 20001 MAX";
        String parts = "-1 0 1 2 3 4 5";
        String digits = "-1 0 9999 10000";
        List<Words> pool = new ArrayList<>();
        grid(pool, "list", "-1 0 54 55", "-1 0 3 4", "-1 0 9999 10000");
        grid(pool, "dry", parts, "-1 0 60 61");
        grid(pool, "hand");
        grid(pool, "sitter", "-1 0 3 5 6", "-1 0 3 5 6");
        grid(pool, "picture", "-1 0 3 20", "-1 0 4", "-10000 3333 10000 40000 100000", "-2 -1 5");
        grid(pool, "go", "MIN -1001 -1 1001 MAX");
        grid(pool, "light", days);
        grid(pool, "book", pictures, days, "-1 0 1 2 3 5 6");
        grid(pool, "unbook", pictures, days);
        grid(pool, "paint", pictures, parts, "-1 0 1 2 3 7");
        grid(pool, "pay", "-1 0 1 2 3 20", "MIN -1 0 1 50 100000 MAX");
        grid(pool, "planned", days, pictures);
        grid(pool, "worth", days);
        grid(pool, "trace", pictures, "-1 0 65535 65536");
        grid(pool, "from", pictures);
        grid(pool, "doubt", pictures);
        grid(pool, "habit", "-1 0 2 3 7", digits);
        grid(pool, "margin", "MIN -1 0 99 100 MAX");
        grid(pool, "strokes", pictures, parts, digits);
        grid(pool, "whose", pictures, parts);
        grid(pool, "told", pictures, "-1 0 3 6");
        grid(pool, "part", pictures, parts, "-1 3 4 5");
        grid(pool, "due", "-1 0 1 2 3 20");
        grid(pool, "count", "-1 0 5 9");
        return pool;
    }

    /** What can be asked of the first three sitters and pictures, and of the rooms. */
    private static List<Words> askAll() {
        List<Words> all = new ArrayList<>();
        grid(all, "count", "0 1 2 3 4 5 6 7 8");
        grid(all, "due", "0 1 2");
        grid(all, "told", "0 1 2", "0 1 2 3 4 5");
        grid(all, "part", "0 1 2", "0 1 2 3 4", "0 1 2 3 4");
        grid(all, "from", "0 1 2");
        grid(all, "doubt", "0 1 2");
        grid(all, "whose", "0 1 2", "0 1 2 3 4");
        grid(all, "worth", "0 2 6");
        grid(all, "planned", "0 2 6", "0 1 2");
        return all;
    }

    /** Calls that change the rooms, so that what can't be asked (hands' days, robes, lists) shows too. */
    private static List<Words> goOn() {
        List<Words> all = new ArrayList<>();
        grid(all, "paint", "0 1 2", "0 2 3 4", "0 1 2");
        grid(all, "unbook", "0 1 2", "0 1 2 5");
        grid(all, "hand");
        grid(all, "sitter", "0", "5");
        grid(all, "pay", "0 1", "1");
        grid(all, "picture", "0", "0 1 2 3", "10000", "-1");
        grid(all, "told", "3 4 5 6", "1");
        grid(all, "go", "1 365");
        grid(all, "picture", "0", "0 1 2 3", "10000", "-1");
        grid(all, "told", "7 8 9 10", "1");
        grid(all, "list", "1", "3", "8");
        grid(all, "picture", "0", "3", "10000", "-1");
        grid(all, "strokes", "0", "0 2 4", "1200");
        grid(all, "whose", "0", "0 2 4");
        return all;
    }

    private static PortraitRooms after(List<Words> story, int steps) {
        PortraitRooms x = new PortraitRooms();
        for (int i = 0; i < steps; i++) {
            story.get(i).answer(x);
        }
        return x;
    }

    private static int[] answers(PortraitRooms x, List<Words> calls) {
        int[] all = new int[calls.size()];
        for (int i = 0; i < all.length; i++) {
            all[i] = calls.get(i).answer(x);
        }
        return all;
    }

    private static boolean isRefused(Words call, int answer) {
        switch (call.name) {
            case "paint": return answer != 0;
            case "hand": case "sitter": case "picture": case "go": case "pay": return answer == PortraitRooms.NONE;
            default: return answer == 0;
        }
    }

    /** Behind these steps of the story each call of the pool is made, and the rest is asked of both twins. */
    private static void twins(List<Words> story, int steps, List<Words> pool, List<Words> rest) {
        if (steps + 1 + rest.size() > MOST_CALLS) {
            wrong++;
            System.out.println(steps + " steps and " + rest.size() + " calls behind them are too many for a test");
        }
        int[] due = answers(after(story, steps), rest);
        for (Words call : pool) {
            PortraitRooms x = after(story, steps);
            int answer = call.answer(x);
            boolean changes = CHANGING.contains(call.name);
            if (changes && !isRefused(call, answer)) {
                continue;
            }
            if (changes) {
                refusalsSeen.add(call.name + " " + answer);
            }
            checked++;
            compare(steps + " steps, then " + call + " answered " + answer, rest, answers(x, rest), due);
        }
    }

    private static void compare(String words, List<Words> calls, int[] got, int[] due) {
        for (int i = 0; i < got.length; i++) {
            if (got[i] != due[i]) {
                if (wrong++ < 20) {
                    System.out.println(words + ": behind it " + calls.get(i) + " answers " + got[i] + ", without it " + due[i]);
                }
                return;
            }
        }
    }

    private static List<Words> joined(List<Words> first, List<Words> second) {
        List<Words> all = new ArrayList<>(first);
        all.addAll(second);
        return all;
    }

    private static void season(List<Words> pool) {
        List<Words> story = calls(SEASON);
        for (int steps = 0; steps <= story.size(); steps++) {
            List<Words> rest = story.subList(steps, story.size());
            twins(story, steps, pool, joined(askAll(), joined(rest, askAll())));
            twins(story, steps, pool, joined(goOn(), askAll()));
        }
    }

    /** A limit that is reached: here calls are refused that could be made before. */
    private static void full(List<Words> pool, String start, int times, String more) {
        StringBuilder lines = new StringBuilder(start);
        for (int i = 0; i < times; i++) {
            lines.append(';').append(more.replace("#", Integer.toString(i)));
        }
        List<Words> story = calls(lines.toString());
        twins(story, story.size(), pool, askAll());
        twins(story, story.size(), pool, joined(goOn(), askAll()));
    }

    public static void main(String[] args) {
        List<Words> pool = pool();
        season(pool);
        full(pool, "sitter 0 5; picture 0 0 11111 0", 60, "list 1 3 #");
        full(pool, "sitter 0 5; picture 0 0 11111 0; strokes 0 4 1", 6, "hand; habit 6 1");
        full(pool, "list 0 0 9", 20, "sitter 0 5");
        full(pool, "sitter 0 5; list 0 0 9; hand", 40, "picture 0 0 11111 0");
        full(pool, "sitter 0 5; sitter 0 5; picture 0 0 31111 0; picture 1 0 31111 0", 200, "book 0 # 0");
        // At the end of days there is no DAY behind NOW.
        full(pool, "sitter 0 5; list 1 3 9; picture 0 0 11111 0; picture 0 0 11111 0", 20, "go 1000");
        if (!refusalsSeen.equals(Set.of(REFUSALS_DUE))) {
            wrong++;
            System.out.println("not every refusal was seen: " + refusalsSeen);
        }
        System.out.println(wrong == 0 ? checked + " refused or asking calls changed nothing" : wrong + " changed something");
        if (wrong != 0) {
            System.exit(1);
        }
    }
}
