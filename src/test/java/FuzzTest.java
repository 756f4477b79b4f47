import java.lang.reflect.InvocationTargetException;
import java.lang.reflect.Method;
import java.lang.reflect.Modifier;
import java.util.ArrayList;
import java.util.List;
import java.util.NoSuchElementException;
import java.util.Random;

/** No call ever throws, whatever it is given, but for led() the one exception that it may; also on the largest cloths. */
public final class FuzzTest {
    private static final Random RANDOM = new Random(40);
    private static final int[] EDGES = {Integer.MIN_VALUE, Integer.MAX_VALUE, -1, -2, 0, 1, 2, 3, 7, 8, 9, 10, 11, 12, 23, 24, 25,
        31, 32, 33, 64, 100, 256, 900, 901, 65536};

    public static void main(String[] args) throws Exception {
        List<Method> calls = new ArrayList<>();
        for (Method m : TwoWeavers.class.getDeclaredMethods()) {
            if (Modifier.isPublic(m.getModifiers())) {
                calls.add(m);
            }
        }
        for (int run = 0; run < 400; run++) {
            TwoWeavers x = new TwoWeavers();
            if (run % 8 != 0) {
                Check.tell(x, largeCloth());
            }
            for (int i = 0; i < 460; i++) {
                call(x, RANDOM.nextInt(3) == 0 ? named(calls, "weave") : calls.get(RANDOM.nextInt(calls.size())));
            }
            Check.due("rows", x.rows(0) <= 24 && x.rows(1) <= 24, true);
        }
        Check.end();
    }

    private static Method named(List<Method> calls, String name) {
        for (Method m : calls) {
            if (m.getName().equals(name)) {
                return m;
            }
        }
        throw new IllegalStateException(name);
    }

    private static void call(TwoWeavers x, Method m) throws Exception {
        if (m.getName().equals("cloth") && RANDOM.nextInt(20) > 0) {
            return;
        }
        Object[] given = new Object[m.getParameterCount()];
        for (int i = 0; i < given.length; i++) {
            given[i] = RANDOM.nextInt(3) == 0 ? EDGES[RANDOM.nextInt(EDGES.length)] : RANDOM.nextInt(i == 0 ? 2 : 9);
        }
        try {
            Object answer = m.invoke(x, given);
            check(m, ((Object) answer instanceof Number n) ? n.longValue() : 0);
        } catch (InvocationTargetException thrown) {
            boolean due = m.getName().equals("led") && thrown.getCause() instanceof NoSuchElementException;
            Check.due(m.getName() + " throws " + thrown.getCause(), due, true);
        }
    }

    private static void check(Method m, long answer) {
        Check.due(m.getName() + " answers " + answer, answer >= -2 && answer <= 1000000000000000000L, true);
    }

    private static String largeCloth() {
        StringBuilder text = new StringBuilder("cloth length " + (40 + RANDOM.nextInt(21)) + " slack " + RANDOM.nextInt(10) + " left "
            + (1 + RANDOM.nextInt(3)) + " right " + (1 + RANDOM.nextInt(3)) + " rate 5;colour r left 9 right 9;colour g left 9 right 9");
        int kinds = 1 + RANDOM.nextInt(8);
        for (int r = 0; r < kinds; r++) {
            text.append(";row k").append((char) ('a' + r)).append(RANDOM.nextInt(2) == 0 ? " of r " : " of g ")
                .append(RANDOM.nextInt(4) * RANDOM.nextInt(2)).append(RANDOM.nextInt(8) == 0 ? " seam" : "");
        }
        for (int r = 0; r < kinds; r++) {
            String list = "";
            for (int q = 0; q < kinds; q++) {
                list += RANDOM.nextInt(3) > 0 ? (list.isEmpty() ? "k" : ",k") + (char) ('a' + q) : "";
            }
            text.append(list.isEmpty() ? "" : ";next k" + (char) ('a' + r) + " then " + list);
        }
        return text.append(";motif m growing ka,ka,ka,ka;note left 3 before right 20").toString();
    }
}
