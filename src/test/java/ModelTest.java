import java.lang.reflect.InvocationTargetException;
import java.lang.reflect.Method;
import java.util.ArrayList;
import java.util.Arrays;
import java.util.List;
import java.util.NoSuchElementException;
import java.util.Random;

/** All promises: random runs of calls, each answer and each trouble held against the slow model's. */
public final class ModelTest {
    private static final Random RANDOM = new Random(20261117);
    private static final List<Method> CALLS = new ArrayList<>();

    public static void main(String[] args) throws Exception {
        for (Method m : TwoWeavers.class.getDeclaredMethods()) {
            if (java.lang.reflect.Modifier.isPublic(m.getModifiers())) {
                CALLS.add(m);
            }
        }
        CALLS.sort((a, b) -> a.getName().compareTo(b.getName()));
        Check.due("calls of the face", CALLS.size(), 39);
        for (int run = 0; run < 600; run++) {
            smallRun(run);
        }
        for (int run = 0; run < 4000; run++) {
            spoiltText(run);
        }
        Check.end();
    }

    private static int below(int n) {
        return RANDOM.nextInt(n);
    }

    private static String randomList(int kinds, int most, boolean unlike) {
        List<Integer> all = new ArrayList<>();
        int count = 1 + below(most);
        for (int i = 0; i < count; i++) {
            int r = below(kinds);
            if (!unlike || !all.contains(r)) {
                all.add(r);
            }
        }
        StringBuilder text = new StringBuilder();
        for (int r : all) {
            text.append(text.length() == 0 ? "" : ",").append((char) ('a' + r));
        }
        return text.toString();
    }

    static String randomCloth() {
        int kinds = 1 + below(4);
        List<String> lines = new ArrayList<>();
        lines.add("cloth length " + (4 + below(5)) + " slack " + below(3) + " left " + (1 + below(3)) + " right "
            + (1 + below(3)) + " rate " + (1 + below(3)));
        int colours = 1 + below(2);
        for (int i = 0; i < colours; i++) {
            lines.add("colour " + (i == 0 ? "red" : "green") + " left " + below(8) + " right " + below(8));
        }
        for (int r = 0; r < kinds; r++) {
            lines.add("row " + (char) ('a' + r) + " of " + (below(colours) == 0 ? "red " : "green ") + (below(8) == 0 ? 0 : 1 + below(3))
                + (below(5) == 0 ? " seam" : ""));
        }
        for (int r = 0; r < kinds; r++) {
            if (below(6) > 0) {
                lines.add("next " + (char) ('a' + r) + " then " + randomList(kinds, 3, true));
            }
        }
        if (below(2) == 0) {
            lines.add("answers " + (char) ('a' + below(kinds)) + " " + (char) ('a' + below(kinds)));
        }
        if (below(3) == 0) {
            lines.add("left " + randomList(kinds, 3, false));
        }
        if (below(3) == 0) {
            lines.add("right " + randomList(kinds, 3, false));
        }
        for (int i = below(4); i > 0; i--) {
            String[] sorts = {"plain", "mirrored", "turning", "growing"};
            lines.add("motif m" + "x".repeat(i) + " " + sorts[below(4)] + " " + randomList(kinds, 3, false));
        }
        for (int i = below(4); i > 0; i--) {
            boolean left = below(2) == 0;
            lines.add("note " + (left ? "left " : "right ") + below(4) + " before " + (left ? "right " : "left ") + below(4));
        }
        return String.join(below(2) == 0 ? ";" : " ; ", lines);
    }

    /** Makes the call on both; false if they differ. */
    private static void both(String run, TwoWeavers x, Model model, Method call, int[] a) throws Exception {
        Object[] given = new Object[a.length];
        for (int i = 0; i < a.length; i++) {
            given[i] = a[i];
        }
        long got;
        try {
            Object answer = call.invoke(x, given);
            got = answer instanceof Boolean b ? (b ? 1 : 0) : ((Number) answer).longValue();
        } catch (InvocationTargetException thrown) {
            if (!(thrown.getCause() instanceof NoSuchElementException) || !call.getName().equals("led")) {
                throw thrown;
            }
            got = -9;
        }
        String told = run + call.getName() + Arrays.toString(a);
        Check.due(told, got, model.call(call.getName(), a));
        Check.due("trouble() behind " + told, x.trouble(), model.call("trouble", new int[0]));
        Check.due("where() behind " + told, x.where(), model.call("where", new int[0]));
    }

    private static void tell(String run, TwoWeavers x, Model model, String text) throws Exception {
        Method feed = TwoWeavers.class.getMethod("feed", int.class, int.class, int.class, int.class, int.class);
        for (int from = 0; from < text.length(); from += 20) {
            int[] a = new int[5];
            for (int i = 0; i < 20; i++) {
                a[i / 4] = a[i / 4] << 8 | (from + i < text.length() ? text.charAt(from + i) & 255 : 32);
            }
            both(run, x, model, feed, a);
        }
        both(run, x, model, TwoWeavers.class.getMethod("cloth", int.class), new int[] {Math.min(text.length(), x.size(12))});
        both(run, x, model, TwoWeavers.class.getMethod("fault"), new int[0]);
    }

    private static void smallRun(int run) throws Exception {
        TwoWeavers x = new TwoWeavers();
        Model model = new Model();
        String text = randomCloth();
        String about = "run " + run + " of " + text + ": ";
        tell(about, x, model, text);
        for (int i = 0; i < 120; i++) {
            Method call = CALLS.get(below(CALLS.size()));
            if (below(3) == 0) {
                call = TwoWeavers.class.getMethod("weave", int.class, int.class);
            }
            boolean weaves = call.getName().equals("weave") || call.getName().equals("weeks");
            if (weaves && model.standing() > 9) {
                call = TwoWeavers.class.getMethod("rip", int.class);
            }
            int[] a = new int[call.getParameterCount()];
            for (int k = 0; k < a.length; k++) {
                a[k] = below(12) == 0 ? below(30) - 2 : below(4);
            }
            if (call.getName().equals("feed")) {
                continue;
            }
            both(about, x, model, call, a);
        }
    }

    private static void spoiltText(int run) throws Exception {
        TwoWeavers x = new TwoWeavers();
        Model model = new Model();
        StringBuilder text = new StringBuilder(randomCloth());
        String[] bits = {";", ",", " ", "a", "b", "left", "right", "seam", "row", "cloth", "colour", "7", "12", "1000",
            "then", "before", "answers a", "note", "motif", "abcdefghi", "A", "next", ";left a", ";colour", ";row q of red 1",
            ",a", ",b", ";right a,a", "\t", "\0", ";note left 9 before right 9", ";motif q plain a", ";answers a a"};
        for (int i = 1 + below(3); i > 0; i--) {
            int from = below(text.length() + 1);
            int to = below(2) == 0 ? from : Math.min(text.length(), from + 1 + below(6));
            String by = below(3) == 0 ? "" : bits[below(bits.length)];
            String put = below(3) == 0 ? by + " " : by;
            text.replace(from, to, put);
            if (below(4) == 0) {
                text.append(bits[below(bits.length)]);
            }
            if (text.length() == 0) {
                text.append(" ");
            }
        }
        String about = "text " + run + ": " + text + ": ";
        tell(about, x, model, text.toString());
        both(about, x, model, TwoWeavers.class.getMethod("units"), new int[0]);
    }
}
