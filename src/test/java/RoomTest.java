import java.lang.reflect.Array;
import java.lang.reflect.Field;
import java.lang.reflect.Modifier;
import java.util.IdentityHashMap;

/** Counts what an object keeps: it must leave room for a run of calls, and calls must not add to it. */
public final class RoomTest {
    private int objects;
    private int elements;
    private final IdentityHashMap<Object, Boolean> seen = new IdentityHashMap<>();

    public static void main(String[] args) throws IllegalAccessException {
        ShutPasses x = new ShutPasses();
        Check.due("a new object is small", new RoomTest().count(x).elements < 100000, true);
        Check.land(x, "place a b c d e f g h i j;from a;to j;road a b 2 doubt 1;road b c 3 doubt 1;road c d 3 doubt 1;"
                + "road d e 3 doubt 1;road e f 3 doubt 1;road f j 1 doubt 4;road a j 20;inn a c d 3;");
        ask(x);
        RoomTest once = new RoomTest().count(x);
        Check.due("elements", once.elements < 500000, true);
        Check.due("objects", once.objects < 200, true);
        for (int i = 0; i < 5; i++) {
            ask(x);
        }
        RoomTest again = new RoomTest().count(x);
        Check.due("no more elements", again.elements, once.elements);
        Check.due("no more objects", again.objects, once.objects);
        Check.end("RoomTest");
    }

    private static void ask(ShutPasses x) {
        for (int plan = 0; plan <= 6; plan++) {
            x.mean(plan);
            x.times(plan, 0);
        }
        x.rows(0);
        x.bell(48);
        x.worth(1);
        x.scout(1, 0);
        x.keep(2);
        x.edge(3);
        x.ring(0);
        x.begin(1);
        x.go(1);
    }

    private RoomTest count(Object object) throws IllegalAccessException {
        if (object == null || object instanceof String || seen.put(object, true) != null) {
            return this;
        }
        objects++;
        if (object.getClass().isArray()) {
            elements += Array.getLength(object);
            return this;
        }
        for (Field field : object.getClass().getDeclaredFields()) {
            if (!Modifier.isStatic(field.getModifiers())) {
                elements++;
                field.setAccessible(true);
                count(field.getType().isPrimitive() ? null : field.get(object));
            }
        }
        return this;
    }
}
