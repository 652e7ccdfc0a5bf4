import java.lang.management.ManagementFactory;
import java.lang.reflect.Array;
import java.lang.reflect.Field;
import java.lang.reflect.Modifier;
import java.util.ArrayDeque;
import java.util.Collections;
import java.util.Deque;
import java.util.IdentityHashMap;
import java.util.Set;

/** An object is made of few parts, and its calls make none. */
public final class RoomTest {
    public static void main(String[] args) throws Exception {
        Check check = new Check();
        lookAtParts(check);
        lookAtCalls(check);
        check.end();
    }

    private static void lookAtParts(Check check) throws Exception {
        Set<Object> seen = Collections.newSetFromMap(new IdentityHashMap<>());
        Deque<Object> open = new ArrayDeque<>();
        open.add(new LinkedVerse());
        long elements = 0;
        while (!open.isEmpty()) {
            Object one = open.poll();
            if (!seen.add(one)) {
                continue;
            }
            if (one.getClass().isArray()) {
                elements += Array.getLength(one);
                continue;
            }
            for (Field f : one.getClass().getDeclaredFields()) {
                if (Modifier.isStatic(f.getModifiers())) {
                    continue;
                }
                elements++;
                f.setAccessible(true);
                if (!f.getType().isPrimitive() && f.get(one) != null) {
                    open.add(f.get(one));
                }
            }
        }
        System.out.println(seen.size() + " objects and arrays, " + elements + " fields and elements");
        check.same("objects", seen.size() < 200, true);
        check.same("elements", elements < 400000, true);
    }

    private static void lookAtCalls(Check check) {
        LinkedVerse x = Check.told("kind a;kind b;kind c;length 48;most a 3;run b 1-3;link;again 2;");
        x.poet(1);
        x.poet(2);
        callAll(x);
        com.sun.management.ThreadMXBean bean = (com.sun.management.ThreadMXBean) ManagementFactory.getThreadMXBean();
        long id = Thread.currentThread().getId();
        bean.getThreadAllocatedBytes(id);
        long before = bean.getThreadAllocatedBytes(id);
        for (int i = 0; i < 20; i++) {
            callAll(x);
        }
        long bytes = bean.getThreadAllocatedBytes(id) - before;
        System.out.println(bytes + " bytes made by 20 rounds of all calls");
        check.same("calls make nothing", bytes < 20000, true);
    }

    private static void callAll(LinkedVerse x) {
        x.feed(0x6b696e64206b3b6bL, 0x696e6420623b6b69L, 0x6e6420633b20203bL);
        x.feed(0, 0, 1);
        x.read();
        x.year(3);
        x.entry(1, 2, 3);
        x.entry(2, 2, 6);
        x.like(0, 1, 1);
        x.liking(1, 2);
        x.verse(1, 1, -1, -1);
        x.verse(200, 1, -1, -1);
        x.turn();
        x.pass();
        x.breaks(1, 2, -1);
        x.type(1);
        x.type(3);
        x.type(6);
        x.ends();
        x.full(3);
        x.can(3);
        x.store(1, -1, -1);
        x.store(2, -1, -1);
        x.best(2);
        x.bestOf(0);
        x.worn(1, true);
        x.ends();
        x.worn(1, false);
        x.verseOf(1, 7);
        x.poetOf(0, 1);
        x.ruleOf(0, 4);
        x.count(12);
        x.back();
    }
}
