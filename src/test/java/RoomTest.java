import com.sun.management.ThreadMXBean;
import java.lang.management.ManagementFactory;
import java.lang.reflect.Array;
import java.lang.reflect.Field;
import java.lang.reflect.Modifier;
import java.util.ArrayDeque;
import java.util.Collections;
import java.util.Deque;
import java.util.IdentityHashMap;
import java.util.Set;

/**
 * All calls of a run live in one room of some 600,000 objects and 7.3 million fields and elements.
 * An object makes its rows once, its calls make nothing, and even 512 objects find room.
 */
public final class RoomTest {
    private static final int OBJECTS = 600_000 / 512;
    private static final int ELEMENTS = 7_300_000 / 512;

    private final Due due = new Due("RoomTest");

    public static void main(String[] args) throws Exception {
        RoomTest test = new RoomTest();
        test.newObjectIsSmall();
        test.callsMakeNothing();
        test.due.finish();
    }

    private void newObjectIsSmall() throws Exception {
        Set<Object> seen = Collections.newSetFromMap(new IdentityHashMap<>());
        Deque<Object> open = new ArrayDeque<>();
        LatticeVault vault = new LatticeVault();
        use(vault, 4);
        open.push(vault);
        seen.add(vault);
        long elements = 0;
        while (!open.isEmpty()) {
            Object each = open.pop();
            if (each.getClass().isArray()) {
                elements += Array.getLength(each);
                if (each instanceof Object[] row) {
                    for (Object element : row) {
                        reach(element, seen, open);
                    }
                }
                continue;
            }
            for (Field field : each.getClass().getDeclaredFields()) {
                if (Modifier.isStatic(field.getModifiers())) {
                    continue;
                }
                elements++;
                if (!field.getType().isPrimitive() && !field.getType().isEnum()) {
                    field.setAccessible(true);
                    reach(field.get(each), seen, open);
                }
            }
        }
        System.out.println("RoomTest: an object is " + seen.size() + " objects, " + elements + " fields and elements");
        due.is("few objects", seen.size() <= OBJECTS, true);
        due.is("few elements", elements <= ELEMENTS, true);
    }

    private static void reach(Object each, Set<Object> seen, Deque<Object> open) {
        if (each != null && seen.add(each)) {
            open.push(each);
        }
    }

    private void callsMakeNothing() {
        ThreadMXBean threads = (ThreadMXBean) ManagementFactory.getThreadMXBean();
        long self = Thread.currentThread().getId();
        LatticeVault[] vaults = new LatticeVault[60];
        for (int i = 0; i < vaults.length; i++) {
            vaults[i] = new LatticeVault();
        }
        use(vaults[0], 3);
        threads.getThreadAllocatedBytes(self);
        long before = threads.getThreadAllocatedBytes(self);
        for (int i = 1; i < vaults.length; i++) {
            use(vaults[i], 2 + i % 3);
        }
        long made = threads.getThreadAllocatedBytes(self) - before;
        // One array of 32 a call would be ten times as much.
        due.is("calls make nothing, bytes made " + made, made < 20_000, true);
    }

    /** Each call of the face, so that it does its work. */
    private static void use(LatticeVault vault, int k) {
        vault.choose(k);
        vault.bound(280);
        feed(vault, 64);
        vault.make();
        feed(vault, 32);
        vault.wrap();
        vault.unwrap();
        for (int what = 0; what <= 2; what++) {
            vault.take(what);
            vault.alter(5, 5);
            vault.load(what);
        }
        vault.unwrap();
        for (int what = 0; what <= 3; what++) {
            feed(vault, 50);
            vault.hash(what, 1000);
        }
        feed(vault, 32);
        vault.sample(0, 1, 2);
        feed(vault, 32);
        vault.noise(1, 3, 2);
        vault.forward(1);
        vault.pairs(0, 1, 2);
        vault.back(2);
        vault.add(2, 0, -1);
        vault.encode(2, 12);
        vault.take(4);
        vault.decode(3, 12);
        vault.press(3, 10);
        vault.stretch(3, 10);
        vault.put(3, 3, 3);
        vault.number(3, 3);
        vault.length(5);
        vault.at(0, 0);
    }

    private static void feed(LatticeVault vault, int count) {
        vault.end(0);
        for (int i = 0; i < count; i += 20) {
            vault.feed(i, 1, 2, 3, 4);
        }
        vault.end(count);
    }
}
