import java.lang.reflect.Constructor;
import java.lang.reflect.Field;
import java.lang.reflect.Member;
import java.lang.reflect.Method;
import java.lang.reflect.Modifier;
import java.nio.file.Files;
import java.nio.file.Path;
import java.util.Set;
import java.util.TreeSet;
import java.util.regex.Matcher;
import java.util.regex.Pattern;

/** "The public face" of DOC.md, and the rules of LANGUAGE.md that reflection or a word can show. */
public final class PortraitRoomsFace {
    private static final String[] FACE = {
        "public static final int NONE",
        "public static final int DOUBT",
        "public PortraitRooms()",
        "public boolean list(int,int,int)",
        "public boolean dry(int,int)",
        "public int hand()",
        "public int sitter(int,int)",
        "public int picture(int,int,int,int)",
        "public int go(int)",
        "public int light(int)",
        "public boolean book(int,int,int)",
        "public boolean unbook(int,int)",
        "public int paint(int,int,int)",
        "public int pay(int,int)",
        "public int planned(int,int)",
        "public int worth(int)",
        "public boolean trace(int,int)",
        "public int from(int)",
        "public boolean doubt(int)",
        "public boolean habit(int,int)",
        "public boolean margin(int)",
        "public boolean strokes(int,int,int)",
        "public int whose(int,int)",
        "public int told(int,int)",
        "public int part(int,int,int)",
        "public int due(int)",
        "public int count(int)",
    };
    private static final Pattern RULED_OUT = Pattern.compile(
        "\\b(throws?|try|catch|finally|synchronized|assert|package|volatile|native|System\\.(?!arraycopy))\\b|->|::|static \\{");
    private static final Class<?> ROOMS = PortraitRooms.class;
    private static int wrong = 0;

    private static void fault(String words) {
        wrong++;
        System.out.println(words);
    }

    private static void face() {
        Set<String> there = new TreeSet<>();
        for (Constructor<?> one : ROOMS.getDeclaredConstructors()) {
            addUnlessPrivate(there, one, one.toString());
        }
        for (Method one : ROOMS.getDeclaredMethods()) {
            addUnlessPrivate(there, one, one.toString());
        }
        for (Field one : ROOMS.getDeclaredFields()) {
            addUnlessPrivate(there, one, one.toString());
        }
        for (String due : FACE) {
            if (!there.remove(due)) {
                fault("the face has no " + due);
            }
        }
        for (String more : there) {
            fault("beyond the face: " + more);
        }
        if (ROOMS.getModifiers() != (Modifier.PUBLIC | Modifier.FINAL)) {
            fault("the class is " + Modifier.toString(ROOMS.getModifiers()));
        }
        if (ROOMS.getSuperclass() != Object.class || ROOMS.getInterfaces().length != 0) {
            fault("the class has a parent");
        }
    }

    private static void addUnlessPrivate(Set<String> there, Member member, String words) {
        if (!Modifier.isPrivate(member.getModifiers())) {
            there.add(words.replace("PortraitRooms.", ""));
        }
    }

    private static void rule1Names() {
        Set<String> open = new TreeSet<>();
        for (Method one : ROOMS.getMethods()) {
            open.add(one.getName());
        }
        for (Method one : ROOMS.getDeclaredMethods()) {
            if (Modifier.isPrivate(one.getModifiers()) && open.contains(one.getName())) {
                fault("rule 1: a private method bears the name of " + one.getName());
            }
        }
    }

    private static void rulesOfAClass(Class<?> one) {
        int fields = 0;
        for (Field field : one.getDeclaredFields()) {
            boolean ofTheClass = Modifier.isStatic(field.getModifiers());
            fields += ofTheClass ? 0 : 1;
            if (ofTheClass && !Modifier.isFinal(field.getModifiers())) {
                fault("rule 5: " + field + " can be changed");
            }
        }
        if (fields > 20) {
            fault("rule 11: " + one.getName() + " has " + fields + " fields");
        }
        for (Method method : one.getDeclaredMethods()) {
            if (method.getParameterCount() > 7) {
                fault("rule 11: " + method);
            }
        }
    }

    private static void rulesOfClassesInside() {
        Class<?>[] inside = ROOMS.getDeclaredClasses();
        if (inside.length + 1 > 12) {
            fault("rule 11: " + inside.length + " classes inside");
        }
        for (Class<?> one : inside) {
            int modifiers = one.getModifiers();
            if (!Modifier.isStatic(modifiers) || Modifier.isPublic(modifiers) || Modifier.isProtected(modifiers)) {
                fault("rules 1 and 2: " + one.getName() + " is " + Modifier.toString(modifiers));
            }
            rulesOfAClass(one);
        }
    }

    /** Comments are left out: they may hold any word. */
    private static void words() throws java.io.IOException {
        String source = Files.readString(Path.of("src/main/java/PortraitRooms.java"));
        String code = source.replaceAll("(?s)/\\*.*?\\*/", "").replaceAll("//.*", "");
        Matcher found = RULED_OUT.matcher(code);
        while (found.find()) {
            fault("ruled out by LANGUAGE.md: " + found.group());
        }
        if (!source.chars().allMatch(c -> c < 128)) {
            fault("the source holds more than plain characters");
        }
    }

    public static void main(String[] args) throws Exception {
        face();
        rule1Names();
        rulesOfAClass(ROOMS);
        rulesOfClassesInside();
        words();
        System.out.println(wrong == 0 ? "the face is the document's" : wrong + " faults of the face");
        if (wrong != 0) {
            System.exit(1);
        }
    }
}
