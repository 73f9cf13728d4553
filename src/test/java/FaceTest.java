import java.lang.reflect.Constructor;
import java.lang.reflect.Field;
import java.lang.reflect.Method;
import java.lang.reflect.Modifier;
import java.nio.file.Files;
import java.nio.file.Path;
import java.util.Random;
import java.util.TreeSet;

/** The document's face, the rules of ../shared/LANGUAGE.md that can be looked for, and that no call throws. */
public final class FaceTest {
    private static final String[] FACE = {"feed 1", "end 1", "text 0", "fault 0", "rule 1", "house 2", "receiver 3",
        "address 2", "leads 2", "reaches 2", "send 3", "tick 1", "run 1", "set 2", "item 3", "asks 3", "stranger 3",
        "log 2", "draw 2", "keep 1", "back 1", "sheet 3", "lay 3", "post 4", "count 1"};

    public static void main(String[] args) throws Exception {
        Checks.begin("FaceTest");
        members();
        constants();
        classesInside();
        source();
        noCallThrows();
        Checks.finish("FaceTest");
    }

    private static void members() {
        TreeSet<String> due = new TreeSet<>(java.util.List.of(FACE));
        TreeSet<String> names = new TreeSet<>();
        TreeSet<String> seen = new TreeSet<>();
        for (Method m : WaryHouses.class.getDeclaredMethods()) {
            if (!Modifier.isPrivate(m.getModifiers())) {
                seen.add(m.getName() + " " + m.getParameterCount());
                names.add(m.getName());
                Checks.yes(m + " is public", Modifier.isPublic(m.getModifiers()));
                Checks.yes(m + " is not static", !Modifier.isStatic(m.getModifiers()));
                Checks.yes(m + " answers an int", m.getReturnType() == int.class);
                for (Class<?> type : m.getParameterTypes()) {
                    Checks.yes(m + " takes ints", type == int.class);
                }
            }
        }
        Checks.yes("the methods are those of the face: " + seen, seen.equals(due));
        for (Method m : WaryHouses.class.getDeclaredMethods()) {
            Checks.yes(m + " bears a name of its own",
                    !Modifier.isPrivate(m.getModifiers()) || !names.contains(m.getName()));
        }
        Constructor<?>[] made = WaryHouses.class.getDeclaredConstructors();
        Checks.due("constructors", made.length, 1);
        Checks.yes("the constructor is public", Modifier.isPublic(made[0].getModifiers()));
        Checks.due("what the constructor takes", made[0].getParameterCount(), 0);
        Checks.yes("the class is public and final", Modifier.isPublic(WaryHouses.class.getModifiers())
                && Modifier.isFinal(WaryHouses.class.getModifiers()));
    }

    private static void constants() {
        Checks.due("BAD", WaryHouses.BAD, -1);
        Checks.due("STATE", WaryHouses.STATE, -2);
        Checks.due("FULL", WaryHouses.FULL, -3);
        Checks.due("NONE", WaryHouses.NONE, -4);
        int open = 0;
        for (Field f : WaryHouses.class.getDeclaredFields()) {
            open += Modifier.isPrivate(f.getModifiers()) ? 0 : 1;
        }
        Checks.due("fields that are not private", open, 4);
    }

    private static void classesInside() {
        Class<?>[] inside = WaryHouses.class.getDeclaredClasses();
        Checks.yes("at most twelve classes", inside.length + 1 <= 12);
        TreeSet<String> names = new TreeSet<>();
        for (String call : FACE) {
            names.add(call.substring(0, call.indexOf(' ')));
        }
        for (Class<?> c : inside) {
            Checks.yes(c + " is static", Modifier.isStatic(c.getModifiers()));
            Checks.yes(c + " is private", Modifier.isPrivate(c.getModifiers()));
            Checks.due("classes inside " + c, c.getDeclaredClasses().length, 0);
            int fields = 0;
            for (Field f : c.getDeclaredFields()) {
                boolean isStatic = Modifier.isStatic(f.getModifiers());
                fields += isStatic ? 0 : 1;
                Checks.yes(f + " is final, if it is static", !isStatic || Modifier.isFinal(f.getModifiers()));
            }
            Checks.yes(c + " has at most twenty fields", fields <= 20);
            for (Method m : c.getDeclaredMethods()) {
                Checks.yes(m + " takes at most seven", m.getParameterCount() <= 7);
                Checks.yes(m + " bears no name of the face", !names.contains(m.getName()));
            }
        }
    }

    private static void source() throws Exception {
        String text = Files.readString(Path.of("src/main/java/WaryHouses.java"));
        String code = text.replaceAll("(?s)/\\*.*?\\*/", "").replaceAll("//[^\n]*", "");
        String[] out = {"throw", "try", "catch", "finally", "synchronized", "assert", "package", "static \\{", "->", "::",
            "Object", "Exact", "hashCode", "toString", "Math\\.random", "System\\.(?!arraycopy)", "java\\.(?!util\\.Arrays;)"};
        for (String word : out) {
            boolean isWord = Character.isLetter(word.charAt(0)) && Character.isLetter(word.charAt(word.length() - 1));
            String sought = isWord ? "\\b" + word + "\\b" : word;
            Checks.yes("no " + word, !java.util.regex.Pattern.compile(sought).matcher(code).find());
        }
        Checks.yes("signs 1 to 127 alone", text.chars().allMatch(c -> c < 127 && (c >= 32 || c == '\n')));
        String[] lines = code.split("\n");
        int first = -1;
        for (int i = 0; i < lines.length; i++) {
            String margin = lines[i].substring(0, lines[i].length() - lines[i].stripLeading().length());
            boolean isMethod = (margin.length() == 4 || margin.length() == 8) && lines[i].matches(".*\\) \\{$")
                    && !lines[i].strip().matches("(if|for|while|switch|\\}).*");
            first = isMethod ? i : first;
            if (first >= 0 && lines[i].strip().equals("}") && lines[first].startsWith(margin)
                    && !lines[first].startsWith(margin + " ")) {
                Checks.yes("at most sixty lines: " + lines[first], i - first < 60);
                first = -1;
            }
        }
    }

    /** Every call with every sort of number, in states that these very calls make; 512 calls on an object at most. */
    private static void noCallThrows() throws Exception {
        Random random = new Random(1);
        Method[] calls = java.util.Arrays.stream(WaryHouses.class.getDeclaredMethods())
                .filter(m -> Modifier.isPublic(m.getModifiers()))
                .sorted(java.util.Comparator.comparing(Method::getName)).toArray(Method[]::new);
        String[] texts = {"", "house;", "house wary;house;domain 0 0 1 1;box 0 0;list 0 1 0 0 0 1;alias 0 2 0 1;",
            "house wary;house wary;house;domain 2 3 0 1;domain 1 0;domain;list 0 0 0 0 0 1 1 0 3 7;box 1 0;box 0 1;"};
        for (int run = 0; run < 800; run++) {
            WaryHouses x = new WaryHouses();
            Checks.yes("a text is taken", Checks.tell(x, texts[run % texts.length]) >= 0);
            for (int i = 0; i < 380; i++) {
                Method call = calls[random.nextInt(calls.length)];
                Object[] numbers = new Object[call.getParameterCount()];
                for (int j = 0; j < numbers.length; j++) {
                    numbers[j] = anyNumber(random);
                }
                call.invoke(x, numbers);
            }
        }
    }

    private static int anyNumber(Random random) {
        int[] edges = {Integer.MIN_VALUE, Integer.MIN_VALUE + 1, -33, -4, -1, 31, 32, 40, 41, 60, 61, 127, 128,
            Integer.MAX_VALUE - 1, Integer.MAX_VALUE};
        int kind = random.nextInt(8);
        return kind == 0 ? edges[random.nextInt(edges.length)] : kind == 1 ? random.nextInt()
                : kind < 5 ? random.nextInt(3) : random.nextInt(32);
    }
}
