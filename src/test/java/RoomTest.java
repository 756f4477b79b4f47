import java.lang.management.ManagementFactory;
import java.lang.reflect.Array;
import java.lang.reflect.Field;
import java.lang.reflect.Modifier;
import java.util.ArrayDeque;
import java.util.Collections;
import java.util.Deque;
import java.util.IdentityHashMap;
import java.util.Set;

/** Rule 12 of LANGUAGE.md: what an object is made of is small, and its calls make nothing more. */
public final class RoomTest {
    private static final int MOST_OBJECTS = 200;
    private static final int MOST_PARTS = 12000;
    private static final int MOST_BYTES_OF_CALLS = 1000;

    private static final String LARGE = "cloth length 60 slack 9 left 1 right 2 rate 5;colour r left 9 right 9;"
        + "colour g left 9 right 9;row a of r 1;row b of g 0;row c of r 0;row d of g 1;row s of r 2 seam;row z of r 3;"
        + "next a then a,b,c,d,s;next b then a,b,c,d,s;next c then a,b,c,d,s;next d then a,b,c,d;next s then a,d;"
        + "answers a b;left a,b,c;right d,b;motif m growing a,b;motif n turning a,b;note left 1 before right 1";
    private static final String FAULTY = "colour r left 1 right 1;row a of r 1;next a then a,a";

    private static int objects = 0;
    private static int parts = 0;

    public static void main(String[] args) throws Exception {
        Check.about("rule 12");
        TwoWeavers x = new TwoWeavers();
        weigh(x);
        int objectsMade = objects;
        int partsMade = parts;
        Check.due(objects + " objects", objects <= MOST_OBJECTS, true);
        Check.due(parts + " fields and elements", parts <= MOST_PARTS, true);
        Check.tell(x, LARGE);
        everyCall(x);
        Check.tell(x, FAULTY);
        weigh(x);
        // The text that was read is the tape's own array, so one empty array of the reader's is gone.
        Check.due("objects behind many calls", objects <= objectsMade, true);
        Check.due("fields and elements behind many calls", parts <= partsMade, true);
        callsMakeNothing();
        Check.end();
    }

    /** Some calls come first uncounted, as the machine makes things of its own when it first sees them. */
    private static void callsMakeNothing() {
        com.sun.management.ThreadMXBean bean = (com.sun.management.ThreadMXBean) ManagementFactory.getThreadMXBean();
        long me = Thread.currentThread().getId();
        TwoWeavers x = new TwoWeavers();
        long bytes = 0;
        for (int time = 0; time < 5; time++) {
            long before = bean.getThreadAllocatedBytes(me);
            Check.tell(x, LARGE);
            long sum = everyCall(x);
            Check.tell(x, FAULTY);
            bytes = bean.getThreadAllocatedBytes(me) - before;
            Check.due("sum of answers", sum != 0, true);
        }
        // What Check makes of its texts is all that may be made.
        Check.due("bytes made by calls: " + bytes, bytes <= MOST_BYTES_OF_CALLS, true);
    }

    private static long everyCall(TwoWeavers x) {
        long sum = 0;
        for (int side = 0; side < 2; side++) {
            for (int r = 0; r < 5; r++) {
                sum += x.row(r, 3) + x.next(r, 0) + x.instead(r, 1) + x.spare(r) + x.sure(side, r);
                sum += x.weave(side, r) ? 1 : 0;
            }
            sum += x.rows(side) + x.at(side, 0) + x.colour(side, 1, 1) + x.may(side) + x.far(side) + x.sureRows(side);
            sum += x.takes(side, 1) + x.seen(0, side) + x.seenAt(1, side);
            sum += x.rip(side) ? 1 : 0;
        }
        sum += x.fault() + x.where() + x.units() + x.meets() + x.meeting(1) + x.woven(1) + x.ways() + x.third();
        sum += x.answered(0) + x.wrongs() + x.mend() + x.mendBy() + x.orders() + x.ahead(1, 1) + x.mark();
        for (int n = 1; n <= 9; n++) {
            sum += x.weeks(n);
        }
        sum += x.undo() ? 1 : 0;
        sum += x.back(0) ? 1 : 0;
        return sum + x.led(0) + x.size(9) + x.trouble();
    }

    // ---- what hangs on an object

    private static void weigh(Object root) throws Exception {
        objects = 0;
        parts = 0;
        Set<Object> seen = Collections.newSetFromMap(new IdentityHashMap<>());
        Deque<Object> open = new ArrayDeque<>();
        open.add(root);
        while (!open.isEmpty()) {
            Object one = open.remove();
            if (seen.add(one)) {
                objects++;
                if (one.getClass().isArray()) {
                    addElements(one, open);
                } else {
                    addFields(one, open);
                }
            }
        }
    }

    private static void addElements(Object array, Deque<Object> open) {
        parts += Array.getLength(array);
        if (array instanceof Object[] all) {
            for (Object one : all) {
                open.add(one);
            }
        }
    }

    private static void addFields(Object one, Deque<Object> open) throws Exception {
        for (Field field : one.getClass().getDeclaredFields()) {
            if (!Modifier.isStatic(field.getModifiers())) {
                parts++;
                field.setAccessible(true);
                if (!field.getType().isPrimitive()) {
                    open.add(field.get(one));
                }
            }
        }
    }
}
