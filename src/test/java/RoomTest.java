import java.io.IOException;
import java.lang.reflect.Array;
import java.lang.reflect.Field;
import java.lang.reflect.Modifier;
import java.nio.file.Files;
import java.nio.file.Path;
import java.util.ArrayDeque;
import java.util.Collections;
import java.util.Deque;
import java.util.IdentityHashMap;
import java.util.Set;

/** All calls of one run live in one room: an object takes little of it, and no call takes more. */
public final class RoomTest {
    private static final Path SOURCE = Path.of("src/main/java/GalleryRows.java");
    private static final String CONSTRUCTOR = "    public GalleryRows() {";
    private static final int MOST_OBJECTS = 100;
    private static final int MOST_ELEMENTS = 20_000;

    private static int wrong = 0;

    /** What hangs on one object: how many objects and arrays, and their fields and elements. */
    private record Room(int objects, int elements) {
        static Room of(Object first) throws IllegalAccessException {
            Set<Object> seen = Collections.newSetFromMap(new IdentityHashMap<>());
            Deque<Object> open = new ArrayDeque<>();
            seen.add(first);
            open.add(first);
            int elements = 0;
            while (!open.isEmpty()) {
                Object one = open.remove();
                elements += one.getClass().isArray() ? elementsOf(one, seen, open) : fieldsOf(one, seen, open);
            }
            return new Room(seen.size(), elements);
        }

        private static int elementsOf(Object array, Set<Object> seen, Deque<Object> open) {
            boolean isOfNumbers = array.getClass().getComponentType().isPrimitive();
            for (int i = 0; i < Array.getLength(array) && !isOfNumbers; i++) {
                meet(Array.get(array, i), seen, open);
            }
            return Array.getLength(array);
        }

        private static int fieldsOf(Object one, Set<Object> seen, Deque<Object> open) throws IllegalAccessException {
            int fields = 0;
            for (Field field : one.getClass().getDeclaredFields()) {
                if (!Modifier.isStatic(field.getModifiers())) {
                    fields++;
                    field.setAccessible(true);
                    meet(field.getType().isPrimitive() ? null : field.get(one), seen, open);
                }
            }
            return fields;
        }

        private static void meet(Object value, Set<Object> seen, Deque<Object> open) {
            if (value != null && seen.add(value)) {
                open.add(value);
            }
        }
    }

    public static void main(String[] args) throws IOException, IllegalAccessException {
        GalleryRows x = new GalleryRows();
        Room first = Room.of(x);
        need(first.objects <= MOST_OBJECTS, "a new object is made of " + first.objects + " objects and arrays");
        need(first.elements <= MOST_ELEMENTS, "a new object has " + first.elements + " fields and elements");
        useAll(x);
        need(Room.of(x).equals(first), "behind calls it takes " + Room.of(x) + ", at first " + first);
        madeInConstructorsAlone();
        System.out.println(wrong == 0 ? "RoomTest: " + first : "RoomTest: " + wrong + " wrong");
        if (wrong != 0) {
            System.exit(1);
        }
    }

    private static void need(boolean good, String fault) {
        if (!good) {
            wrong++;
            System.out.println(fault);
        }
    }

    /** A full house, asked for all that there is, twice. */
    private static void useAll(GalleryRows x) {
        Due.feedText(x, "m0-99;".repeat(7) + "k01;e2;p13;");
        x.read();
        for (int v = 0; v < 24; v++) {
            x.vote(v, 127 & (5 * v + 3), 127 & ~(5 * v + 3));
        }
        x.image();
        Due.askAll(x);
        x.turn();
        x.takeOut();
        x.free();
        Due.put(x, 6, 5, 4, 3, 2, 1, 0);
        x.cut(0);
        x.wrong(0);
        x.judge();
        x.restore();
        Due.askAll(x);
    }

    // What a call makes and lets go again takes room, too: so "new" stands in constructors alone.
    private static void madeInConstructorsAlone() throws IOException {
        boolean isConstructor = false;
        for (String line : Files.readAllLines(SOURCE)) {
            isConstructor = line.equals(CONSTRUCTOR) || (isConstructor && !line.equals("    }"));
            boolean isMade = line.matches(".*\\bnew\\b.*[\\[(].*") && !line.matches("\\s*(//|/?\\*).*");
            boolean isOfField = line.matches(" {4,8}private final int\\[\\] \\w+ = new int\\[\\w+\\];");
            need(!isMade || isConstructor || isOfField, "made outside a constructor: " + line);
        }
    }
}
