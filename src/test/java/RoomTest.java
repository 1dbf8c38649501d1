import java.lang.reflect.Array;
import java.lang.reflect.Field;
import java.lang.reflect.Modifier;
import java.util.Collections;
import java.util.IdentityHashMap;
import java.util.Set;

/** The room of a run: what a new object takes of it, and that calls keep nothing beside it. */
public final class RoomTest {
    private static final int MOST_OBJECTS = 200;
    private static final int MOST_ELEMENTS = 75000;

    private final Set<Object> seen = Collections.newSetFromMap(new IdentityHashMap<>());
    private long elements = 0;

    private void take(Object o) throws IllegalAccessException {
        if (o == null || o instanceof String || !seen.add(o)) {
            return;
        }
        if (o.getClass().isArray()) {
            int length = Array.getLength(o);
            elements += length;
            for (int i = 0; i < length && !o.getClass().getComponentType().isPrimitive(); i++) {
                take(Array.get(o, i));
            }
            return;
        }
        for (Field f : o.getClass().getDeclaredFields()) {
            if (!Modifier.isStatic(f.getModifiers())) {
                f.setAccessible(true);
                elements++;
                take(f.getType().isPrimitive() ? null : f.get(o));
            }
        }
    }

    private static RoomTest of(WhyNot x) throws IllegalAccessException {
        RoomTest room = new RoomTest();
        room.take(x);
        return room;
    }

    private static void callAll(WhyNot x, String text) {
        Edges.read(x, text);
        for (int box = 0; box < 3; box++) {
            x.image(box);
        }
        for (int i = 0; i < 40; i++) {
            x.kind(i, i);
            x.right(i);
            x.trust(i, 1 + i);
        }
        x.core();
        x.cores();
        x.mends();
        x.left(0);
        x.sure(0);
        x.cheapest();
        x.hints();
        x.meets(0, 1);
        x.run(0);
        x.apply(0);
        x.back(1);
    }

    public static void main(String[] args) throws IllegalAccessException {
        String s = "All calls of one run live in ONE room";
        WhyNot x = new WhyNot();
        RoomTest room = of(x);
        System.out.println("a new object: " + room.seen.size() + " objects and arrays, " + room.elements + " fields and elements");
        Edges.due(s, "objects and arrays are few", room.seen.size() <= MOST_OBJECTS, true);
        Edges.due(s, "fields and elements are few", room.elements <= MOST_ELEMENTS, true);
        String[] texts = {"def a add yes no;", "def a 1;def b add a;", "def w call fun x call x x fun x call x x;",
            "def a cons 1 cons yes cons nil cons fun x x nil;", "def f fun s fun n if less n 9 cons n call call s s add n 1 nil;"
            + "def m call call f f 0;", "def a pair 1 1;def b pair a a;def c pair b b;def d pair c c;def e pair d d;"};
        for (String text : texts) {
            callAll(x, text);
            RoomTest then = of(x);
            Edges.due(s, "objects behind " + text, then.seen.size(), room.seen.size());
            Edges.due(s, "elements behind " + text, then.elements, room.elements);
            Edges.due(s, "the same ones behind " + text, then.seen.equals(room.seen), true);
        }
        Edges.finish("RoomTest");
    }
}
