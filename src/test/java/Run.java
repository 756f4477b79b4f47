import java.lang.reflect.InvocationTargetException;
import java.lang.reflect.Method;
import java.util.Arrays;
import java.util.HashMap;
import java.util.List;
import java.util.Map;
import java.util.NoSuchElementException;

/**
 * A run of calls on one object, held against what is due. Calls are written as they are made,
 * "row(2, 3)", with max and min for the outermost numbers.
 */
final class Run {
    /** What led() answers here when it throws the exception that it may throw. */
    static final long THROWS = -9;

    private static final int MOST_CALLS = 512;
    private static final List<String> NEVER_REFUSED = Arrays.asList("feed", "fault", "where", "led", "size", "trouble");
    private static final List<String> CHANGES = Arrays.asList("feed", "cloth", "weave", "rip", "weeks", "undo", "mark", "back");
    private static final Map<String, Method> CALLS = new HashMap<>();

    private final TwoWeavers x = new TwoWeavers();
    private int made = 0;
    private String latest = "new";
    private String seen = null;

    Run() {
        for (Method m : TwoWeavers.class.getMethods()) {
            CALLS.put(m.getName(), m);
        }
    }

    /** Feeds a text, makes it the cloth, and holds its number of kinds of rows against what is due. */
    Run told(String text, int kinds) {
        fed(text);
        return due("cloth(" + text.length() + ")", kinds);
    }

    Run told(String text) {
        fed(text);
        made++;
        if (x.cloth(text.length()) < 0) {
            Check.due("fault of " + text + " at " + x.where(), x.fault(), 0);
        }
        return this;
    }

    Run fed(String text) {
        Check.feed(x, text);
        made += (text.length() + 19) / 20;
        seen = null;
        return this;
    }

    /** The answer is this one; a call that may be refused was not, by trouble(). */
    Run due(String call, long want) {
        if (NEVER_REFUSED.contains(nameOf(call))) {
            Check.due(call, make(call), want);
            return this;
        }
        return due(call, want, 0);
    }

    /** The answer is this one, and trouble() tells this number. */
    Run due(String call, long want, int trouble) {
        comeFromOtherTrouble(call, trouble);
        Check.due(call, make(call), want);
        return trouble(trouble);
    }

    /** So that a trouble that was there already is not taken for the call's own; neither call here changes anything. */
    private void comeFromOtherTrouble(String call, int trouble) {
        if (!NEVER_REFUSED.contains(nameOf(call))) {
            made++;
            int other = trouble == 2 ? x.row(-1, 0) : x.cloth(-1);
            Check.due("a call that is always refused", other, -1);
        }
    }

    /** What calls answer now, to be held against what they answer later. */
    long[] answers(String... calls) {
        return Arrays.stream(calls).mapToLong(this::make).toArray();
    }

    /** Several calls that all answer the same, such as true. */
    Run all(long want, String... calls) {
        for (String call : calls) {
            due(call, want);
        }
        return this;
    }

    /** Made so many times, for what it does; it may not be refused. */
    Run times(int n, String call) {
        for (int i = 0; i < n; i++) {
            Check.due(call + ", time " + (i + 1), make(call) != refusal(call), true);
            trouble(0);
        }
        return this;
    }

    /** Each is refused by this trouble, and leaves all that can be seen as it was. */
    Run refused(int trouble, String... calls) {
        for (String call : calls) {
            String before = seen == null ? look() : seen;
            comeFromOtherTrouble(call, trouble);
            Check.due(call, make(call), refusal(call));
            trouble(trouble);
            seen = look();
            Check.due(call + " left " + seen + " of " + before, seen.equals(before), true);
        }
        return this;
    }

    /** cloth(n) is refused by 4 for this fault at this place: THE TAPE is empty then, the CLOTH stays. */
    Run faulty(int n, int fault, int place) {
        String before = standing(seen == null ? look() : seen);
        due("cloth(" + n + ")", -1, 4);
        due("fault()", fault).due("where()", place).due("size(12)", 0);
        seen = look();
        Check.due("cloth(" + n + ") left " + seen + " of " + before, standing(seen).equals(before), true);
        return this;
    }

    private static String standing(String look) {
        return look.substring(0, look.indexOf("tape"));
    }

    Run trouble(int want) {
        made++;
        Check.due("trouble() behind " + latest, x.trouble(), want);
        return this;
    }

    /** An object is used for no more calls than the document tells. */
    void end() {
        Check.due("calls on one object " + made, made <= MOST_CALLS, true);
    }

    private static String nameOf(String call) {
        return call.substring(0, call.indexOf('('));
    }

    static long refusal(String call) {
        return CALLS.get(nameOf(call)).getReturnType() == boolean.class ? 0 : -1;
    }

    private long make(String call) {
        made++;
        latest = call;
        if (CHANGES.contains(nameOf(call))) {
            seen = null;
        }
        String inside = call.substring(call.indexOf('(') + 1, call.indexOf(')')).trim();
        Object[] given = inside.isEmpty() ? new Object[0]
            : Arrays.stream(inside.split(",")).map(part -> (Object) number(part.trim())).toArray();
        try {
            Object answer = CALLS.get(nameOf(call)).invoke(x, given);
            return answer instanceof Boolean b ? (b ? 1 : 0) : ((Number) answer).longValue();
        } catch (InvocationTargetException thrown) {
            if (nameOf(call).equals("led") && thrown.getCause() instanceof NoSuchElementException) {
                return THROWS;
            }
            throw new IllegalStateException(call, thrown.getCause());
        } catch (IllegalAccessException hidden) {
            throw new IllegalStateException(call, hidden);
        }
    }

    private static int number(String part) {
        switch (part) {
            case "max": return Integer.MAX_VALUE;
            case "min": return Integer.MIN_VALUE;
            default: return Integer.parseInt(part);
        }
    }

    /** All that a refused call may not touch: sizes, rows of both sides, colours. */
    private String look() {
        StringBuilder all = new StringBuilder();
        for (int what = 0; what <= 11; what++) {
            all.append(ask("size(" + what + ")"));
        }
        int colours = x.size(1);
        made++;
        for (int side = 0; side < 2; side++) {
            int rows = x.rows(side);
            made++;
            all.append("| ");
            for (int place = 0; place < rows; place++) {
                all.append(ask("at(" + side + ", " + place + ")"));
            }
            for (int i = 0; i < colours * 3; i++) {
                all.append(ask("colour(" + side + ", " + i / 3 + ", " + i % 3 + ")"));
            }
        }
        return all.append("tape ").append(ask("size(12)")).toString();
    }

    private String ask(String call) {
        return make(call) + " ";
    }
}
