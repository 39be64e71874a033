import java.lang.reflect.Array;
import java.lang.reflect.Field;
import java.lang.reflect.Modifier;
import java.util.ArrayList;
import java.util.Arrays;
import java.util.IdentityHashMap;
import java.util.List;
import java.util.Map;
import java.util.function.ToIntFunction;

/** All calls of one run live in one room: what an object of the class takes of it, and that no call takes or leaves more. */
public final class RoomTest {
    private static final int ROOM_OBJECTS = 600_000, ROOM_FIELDS = 7_300_000;
    /** So many objects of the class in one run are far more than any test makes. */
    private static final int MANY = 10_000;

    public static void main(String[] args) throws IllegalAccessException {
        StackedLeaves x = new StackedLeaves();
        int[] first = takes(x);
        Due.is(first[0] + " objects and arrays, times " + MANY, first[0] * MANY <= ROOM_OBJECTS ? 1 : 0, 1);
        Due.is(first[1] + " fields and elements, times " + MANY, first[1] * MANY <= ROOM_FIELDS ? 1 : 0, 1);
        // the same objects as ahead of the calls: none was made that stayed
        Map<Object, Boolean> before = reached(x);
        for (ToIntFunction<StackedLeaves> call : calls()) {
            call.applyAsInt(x);
            Due.is("the same objects and arrays", reached(x).keySet().equals(before.keySet()) ? 1 : 0, 1);
        }
        Due.end();
    }

    private static List<ToIntFunction<StackedLeaves>> calls() {
        List<ToIntFunction<StackedLeaves>> all = new ArrayList<>();
        for (char c : Due.FIVE.toCharArray()) {
            all.add(x -> x.type(c));
        }
        all.add(StackedLeaves::tells);
        all.add(x -> x.type('l'));
        all.add(StackedLeaves::clear);
        all.add(x -> x.keep(0));
        all.add(x -> x.keep(1));
        for (int i = 0; i < 8; i++) {
            int n = i;
            all.add(x -> x.cambers(0, n));
            all.add(x -> x.breaks(n));
            all.add(x -> x.mends(n));
            all.add(x -> x.loads(100 * n));
            all.add(x -> x.sees(n, n));
            all.add(x -> x.undo());
        }
        all.add(x -> x.leaf(0, 6));
        all.add(x -> x.bend(99, 0));
        all.add(x -> x.bears(0, 99, 0));
        all.add(x -> x.rate(99));
        all.add(x -> x.least(2));
        all.add(x -> x.knee(-1));
        all.add(x -> x.chosen(50, 50, 1));
        all.add(x -> x.which(0));
        all.add(StackedLeaves::forget);
        all.add(StackedLeaves::ask);
        all.add(x -> x.back(0));
        all.add(x -> x.count(4));
        return all;
    }

    /** {objects and arrays, their fields and elements}. */
    private static int[] takes(Object from) throws IllegalAccessException {
        int fields = 0;
        Map<Object, Boolean> all = reached(from);
        for (Object o : all.keySet()) {
            fields += o.getClass().isArray() ? Array.getLength(o) : ownFields(o).size();
        }
        return new int[] {all.size(), fields};
    }

    private static Map<Object, Boolean> reached(Object from) throws IllegalAccessException {
        Map<Object, Boolean> found = new IdentityHashMap<>();
        walk(from, found);
        return found;
    }

    private static void walk(Object o, Map<Object, Boolean> found) throws IllegalAccessException {
        if (o == null || found.put(o, true) != null) {
            return;
        }
        if (o instanceof Object[] row) {
            for (Object element : row) {
                walk(element, found);
            }
        } else if (!o.getClass().isArray()) {
            for (Field f : ownFields(o)) {
                if (!f.getType().isPrimitive()) {
                    f.setAccessible(true);
                    walk(f.get(o), found);
                }
            }
        }
    }

    private static List<Field> ownFields(Object o) {
        return Arrays.stream(o.getClass().getDeclaredFields()).filter(f -> !Modifier.isStatic(f.getModifiers())).toList();
    }
}
