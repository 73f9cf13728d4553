import java.lang.reflect.Array;
import java.lang.reflect.Field;
import java.lang.reflect.Modifier;
import java.nio.file.Files;
import java.nio.file.Path;
import java.util.ArrayDeque;
import java.util.IdentityHashMap;

/** What an object holds is small and does not grow with its calls; the README's example does what it says. */
public final class RoomTest {
    private static final int ROOM_OBJECTS = 600_000, ROOM_FIELDS = 7_300_000, MOST_CALLS = 512;

    private static final String EXAMPLE_TEXT = "house; house wary; domain 1 0; box 0 1; alias 0 2 0 1;";

    private static final String BUSY_TEXT =
            "house;house wary;house;domain 1 0 2 3;domain 0 0;box 0 0;list 0 1 0 0 0 1 0 2;alias 0 2 0 1;box 1 0;";

    public static void main(String[] args) throws Exception {
        Checks.begin("RoomTest");
        newObjectIsSmall();
        callsKeepNothingMore();
        readmeExampleHolds();
        Checks.finish("RoomTest");
    }

    /** Even a run that makes an object anew by each of its calls has room. */
    private static void newObjectIsSmall() throws Exception {
        IdentityHashMap<Object, Integer> held = heldBy(new WaryHouses());
        int fields = held.values().stream().mapToInt(Integer::intValue).sum();
        Checks.yes("objects of a new one: " + held.size(), held.size() <= ROOM_OBJECTS / (MOST_CALLS + 1));
        Checks.yes("fields of a new one: " + fields, fields <= ROOM_FIELDS / (MOST_CALLS + 1));
    }

    /** A sheet is an object with two rows, in place of the one there was; nothing else that is kept is new. */
    private static void callsKeepNothingMore() throws Exception {
        WaryHouses x = new WaryHouses();
        IdentityHashMap<Object, Integer> before = heldBy(x);
        Checks.due("lines", Checks.tell(x, BUSY_TEXT), 9);
        for (int i = 0; i < 40; i++) {
            x.draw(i, 10);
            x.send(0, 8, 1);
            x.tick(3);
            x.keep(i % 2);
            x.back((i + 1) % 2);
            x.sheet(i % 4, i / 4 % 2, 40);
            x.post(i % 4, i / 4 % 2, i % 20, 6);
            x.run(5);
        }
        Checks.yes("letters were given", x.rule(10) > 0);
        IdentityHashMap<Object, Integer> after = heldBy(x);
        int fresh = 0;
        for (Object o : after.keySet()) {
            fresh += before.containsKey(o) ? 0 : 1;
        }
        Checks.due("objects that are new", fresh, 4 * 3);
        Checks.due("objects in all", after.size(), before.size() + 4 * 3);
    }

    /** All that can be reached from an object, itself too, each with the number of its fields or elements. */
    private static IdentityHashMap<Object, Integer> heldBy(Object root) throws Exception {
        IdentityHashMap<Object, Integer> held = new IdentityHashMap<>();
        ArrayDeque<Object> left = new ArrayDeque<>();
        left.add(root);
        while (!left.isEmpty()) {
            Object o = left.remove();
            if (held.containsKey(o)) {
                continue;
            }
            if (o.getClass().isArray()) {
                held.put(o, Array.getLength(o));
                for (int i = 0; !o.getClass().getComponentType().isPrimitive() && i < Array.getLength(o); i++) {
                    addIfThere(left, Array.get(o, i));
                }
                continue;
            }
            int fields = 0;
            for (Field f : o.getClass().getDeclaredFields()) {
                if (!Modifier.isStatic(f.getModifiers())) {
                    fields++;
                    f.setAccessible(true);
                    addIfThere(left, f.getType().isPrimitive() ? null : f.get(o));
                }
            }
            held.put(o, fields);
        }
        return held;
    }

    private static void addIfThere(ArrayDeque<Object> left, Object o) {
        if (o != null) {
            left.add(o);
        }
    }

    private static void readmeExampleHolds() throws Exception {
        String readme = Files.readString(Path.of("README.md"));
        String[] shown = {"String text = \"" + EXAMPLE_TEXT + "\";", "x.feed(text.charAt(i));", "x.text();", "x.send(0, 5, 2);",
            "x.run(60);", "x.address(1, 1);"};
        for (String line : shown) {
            Checks.yes("README.md shows " + line, readme.contains(line));
        }
        WaryHouses x = new WaryHouses();
        Checks.due("text()", Checks.tell(x, EXAMPLE_TEXT), 5);
        Checks.due("send(0, 5, 2)", x.send(0, 5, 2), 0);
        // The wary house is asked at 1, 2 and 4; the alias is followed at 5; the box has it at 6.
        Checks.due("run(60)", x.run(60), 6);
        Checks.due("address(1, 1)", x.address(1, 1), 1);
    }
}
