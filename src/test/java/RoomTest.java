import java.lang.reflect.Array;
import java.lang.reflect.Field;
import java.lang.reflect.Modifier;
import java.util.ArrayDeque;
import java.util.Collections;
import java.util.Deque;
import java.util.IdentityHashMap;
import java.util.Random;
import java.util.Set;

/** How many objects, fields and elements one object of the class holds: few, and as many after 512 calls as before. */
public final class RoomTest {
    private static final int MOST_OBJECTS = 150;
    private static final int MOST_ELEMENTS = 6000;

    private int objects = 0;
    private int elements = 0;

    public static void main(String[] args) {
        TermsFirst x = new TermsFirst();
        RoomTest before = measured(x);
        use(x);
        RoomTest after = measured(x);
        Script.due("room", "few objects: " + before.objects, before.objects <= MOST_OBJECTS ? 1 : 0, 1);
        Script.due("room", "few elements: " + before.elements, before.elements <= MOST_ELEMENTS ? 1 : 0, 1);
        Script.due("room", "objects after the calls", after.objects, before.objects);
        Script.due("room", "elements after the calls", after.elements, before.elements);
        Script.end();
    }

    private static void use(TermsFirst x) {
        Random random = new Random(5);
        String text = "sections 10;home a 9;uses 0 a;ahead 1 2;order 0 1 2 3 4 5 6 7 8 9";
        for (int i = 0; i < text.length(); i++) {
            x.write(text.charAt(i));
        }
        Script.due("room", "tell()", x.tell(), 5);
        for (int i = 0; i < 25; i++) {
            int s = random.nextInt(10);
            int t = random.nextInt(12);
            x.uses(s, t, 1);
            x.home(t, random.nextInt(10));
            x.move(s, random.nextInt(10));
            x.ahead(s, random.nextInt(10));
            x.pages(s, 1 + random.nextInt(9));
            x.settle();
            x.would(s, t);
            x.after(s, t);
            x.ring(0);
            x.section(s, 7);
            x.count(8);
            x.least(3);
            x.keep(i % 2);
            x.undo();
            x.write(i);
            x.fault();
        }
        x.back(0);
    }

    private static RoomTest measured(TermsFirst x) {
        RoomTest room = new RoomTest();
        Set<Object> seen = Collections.newSetFromMap(new IdentityHashMap<>());
        Deque<Object> open = new ArrayDeque<>();
        seen.add(x);
        open.push(x);
        while (!open.isEmpty()) {
            room.measure(open.pop(), seen, open);
        }
        return room;
    }

    private void measure(Object o, Set<Object> seen, Deque<Object> open) {
        objects++;
        if (o.getClass().isArray()) {
            elements += Array.getLength(o);
            for (int i = 0; !o.getClass().getComponentType().isPrimitive() && i < Array.getLength(o); i++) {
                meet(Array.get(o, i), seen, open);
            }
            return;
        }
        for (Field f : o.getClass().getDeclaredFields()) {
            if (!Modifier.isStatic(f.getModifiers())) {
                elements++;
                if (!f.getType().isPrimitive()) {
                    meet(valueOf(f, o), seen, open);
                }
            }
        }
    }

    private static void meet(Object o, Set<Object> seen, Deque<Object> open) {
        if (o != null && seen.add(o)) {
            open.push(o);
        }
    }

    private static Object valueOf(Field f, Object o) {
        try {
            f.setAccessible(true);
            return f.get(o);
        } catch (IllegalAccessException e) {
            throw new IllegalStateException(e);
        }
    }
}
