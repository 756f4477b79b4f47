import java.math.BigInteger;
import java.util.ArrayList;
import java.util.Arrays;
import java.util.HashMap;
import java.util.LinkedHashMap;
import java.util.List;
import java.util.Map;
import java.util.NoSuchElementException;

/**
 * The document once more, in the slowest and plainest way: every meeting is tried, every order is laid out,
 * a week asks for the best meeting ahead of each row. For small cloths alone.
 */
final class Model {
    /** A fault of a text, with its number and place. */
    static final class Fault extends RuntimeException {
        final int number;
        final int place;

        Fault(int number, int place) {
            this.number = number;
            this.place = place;
        }
    }

    private record Kind(int colour, int takes, boolean seam) { }

    private record Motif(String kind, List<Integer> rows) { }

    private record Note(int firstSide, int first, int latter) { }

    private static final class Told {
        int length, slack, rate;
        int[] hands = new int[2];
        List<int[]> colours = new ArrayList<>();
        List<Kind> kinds = new ArrayList<>();
        boolean[][] next = new boolean[8][8];
        Map<Integer, Integer> partners = new HashMap<>();
        List<Motif> motifs = new ArrayList<>();
        List<Note> notes = new ArrayList<>();
    }

    private static final class State {
        List<List<Integer>> rows = List.of(new ArrayList<>(), new ArrayList<>());
        int[][] stores = new int[2][2];
        int[][] waste = new int[2][2];
        int weeks = 0;

        State copy() {
            State s = new State();
            for (int side = 0; side < 2; side++) {
                s.rows.get(side).addAll(rows.get(side));
                s.stores[side] = stores[side].clone();
                s.waste[side] = waste[side].clone();
            }
            s.weeks = weeks;
            return s;
        }
    }

    private record Meeting(int leftRipped, int rightRipped, List<Integer> left, List<Integer> right) {
        List<Integer> across() {
            List<Integer> all = new ArrayList<>(left);
            for (int i = right.size() - 1; i >= 0; i--) {
                all.add(right.get(i));
            }
            return all;
        }

        int[] key() {
            List<Integer> all = across();
            int[] key = new int[4 + all.size()];
            key[0] = leftRipped + rightRipped;
            key[1] = left.size() + right.size();
            key[2] = leftRipped;
            key[3] = left.size();
            for (int i = 0; i < all.size(); i++) {
                key[4 + i] = all.get(i);
            }
            return key;
        }
    }

    private StringBuilder tape = new StringBuilder();
    private Told told = null;
    private State state = new State();
    private final List<State> acts = new ArrayList<>();
    private final List<State> marks = new ArrayList<>();
    private int trouble = 0;
    private int fault = 0;
    private int place = -1;

    private int no(int why) {
        trouble = why;
        return -1;
    }

    private boolean noSide(int side) {
        return told == null || side < 0 || side > 1;
    }

    private boolean noKind(int r) {
        return told == null || r < 0 || r >= told.kinds.size();
    }

    private boolean noColour(int c) {
        return told == null || c < 0 || c >= told.colours.size();
    }

    // ---- the text

    private static final List<String> KEPT = Arrays.asList("cloth", "colour", "row", "next", "answers", "left",
        "right", "motif", "note", "seam", "then", "before");

    private record Token(String text, int place) { }

    private static List<Token> tokens(String text) {
        List<Token> all = new ArrayList<>();
        java.util.regex.Matcher m = java.util.regex.Pattern.compile("[a-z]+|[0-9]+|[^ ]", java.util.regex.Pattern.DOTALL)
            .matcher(text);
        while (m.find()) {
            boolean good = m.group().matches("[a-z]{1,8}|[0-9]{1,3}|[;,]");
            all.add(new Token(good ? m.group() : "?", m.start()));
        }
        all.add(new Token("", text.length()));
        return all;
    }

    private final class Parser {
        final List<Token> all;
        int i = 0;
        final Told t = new Told();
        final State s = new State();
        final Map<String, String> sorts = new LinkedHashMap<>();
        final Map<String, Integer> numbers = new HashMap<>();
        final Map<String, Integer> lines = new HashMap<>();

        Parser(String text) {
            all = tokens(text);
        }

        String text() {
            return all.get(i).text();
        }

        Fault faultHere(int number) {
            return new Fault(number, all.get(i).place());
        }

        void word(String w) {
            if (!text().equals(w)) {
                throw faultHere(1);
            }
            i++;
        }

        int whole(int least, int most) {
            if (!text().matches("[0-9]+")) {
                throw faultHere(1);
            }
            int v = Integer.parseInt(text());
            if (v < least || v > most) {
                throw faultHere(4);
            }
            i++;
            return v;
        }

        void needName() {
            if (!text().matches("[a-z]+") || KEPT.contains(text())) {
                throw faultHere(1);
            }
        }

        void tell(String sort, int number) {
            needName();
            if (sorts.containsKey(text())) {
                throw faultHere(3);
            }
            sorts.put(text(), sort);
            numbers.put(text(), number);
            i++;
        }

        int named(String sort) {
            needName();
            if (!sort.equals(sorts.get(text()))) {
                throw faultHere(2);
            }
            return numbers.get(text());
        }

        void parse() {
            line();
            while (!text().equals("")) {
                word(";");
                line();
            }
            if (!lines.containsKey("cloth") || t.kinds.isEmpty()) {
                throw faultHere(6);
            }
        }

        void line() {
            String first = text();
            int before = lines.getOrDefault(first, 0);
            Map<String, Integer> room = Map.of("colour", 2, "row", 8, "motif", 4, "note", 6);
            if (!Arrays.asList("cloth", "colour", "row", "next", "answers", "left", "right", "motif", "note").contains(first)) {
                throw faultHere(1);
            }
            if (before == 1 && Arrays.asList("cloth", "left", "right").contains(first)) {
                throw faultHere(3);
            }
            if (room.containsKey(first) && before == room.get(first)) {
                throw faultHere(5);
            }
            lines.put(first, before + 1);
            i++;
            switch (first) {
                case "cloth" -> cloth();
                case "colour" -> colour();
                case "row" -> row();
                case "next" -> next();
                case "answers" -> answers();
                case "left" -> side(0);
                case "right" -> side(1);
                case "motif" -> motif();
                default -> note();
            }
        }

        void cloth() {
            word("length");
            t.length = whole(4, 60);
            word("slack");
            t.slack = whole(0, 9);
            word("left");
            t.hands[0] = whole(1, 9);
            word("right");
            t.hands[1] = whole(1, 9);
            word("rate");
            t.rate = whole(1, 5);
        }

        void colour() {
            int number = t.colours.size();
            tell("colour", number);
            word("left");
            s.stores[0][number] = whole(0, 9);
            word("right");
            s.stores[1][number] = whole(0, 9);
            t.colours.add(new int[] {s.stores[0][number], s.stores[1][number]});
        }

        void row() {
            tell("row", t.kinds.size());
            word("of");
            int colour = named("colour");
            i++;
            int takes = whole(0, 3);
            boolean seam = text().equals("seam");
            if (seam) {
                i++;
            }
            t.kinds.add(new Kind(colour, takes, seam));
        }

        final List<Integer> nexts = new ArrayList<>();

        void next() {
            int r = named("row");
            if (nexts.contains(r)) {
                throw faultHere(3);
            }
            nexts.add(r);
            i++;
            word("then");
            List<Integer> list = new ArrayList<>();
            do {
                int q = named("row");
                if (list.contains(q)) {
                    throw faultHere(3);
                }
                list.add(q);
                t.next[r][q] = true;
                i++;
            } while (comma());
        }

        boolean comma() {
            if (text().equals(",")) {
                i++;
                return true;
            }
            return false;
        }

        void answers() {
            int[] two = new int[2];
            for (int k = 0; k < 2; k++) {
                two[k] = named("row");
                if (t.partners.containsKey(two[k])) {
                    throw faultHere(3);
                }
                i++;
            }
            t.partners.put(two[0], two[1]);
            t.partners.put(two[1], two[0]);
        }

        void side(int side) {
            int count = 0;
            do {
                int r = named("row");
                if (++count > 12) {
                    throw faultHere(5);
                }
                if (hindrance(t, s, side, r) != 0) {
                    throw faultHere(7);
                }
                lay(t, s, side, r);
                i++;
            } while (comma());
        }

        void motif() {
            tell("motif", t.motifs.size());
            String kind = text();
            if (!Arrays.asList("plain", "mirrored", "turning", "growing").contains(kind)) {
                throw faultHere(1);
            }
            i++;
            List<Integer> list = new ArrayList<>();
            do {
                int r = named("row");
                if (list.size() == 4) {
                    throw faultHere(5);
                }
                list.add(r);
                i++;
            } while (comma());
            t.motifs.add(new Motif(kind, list));
        }

        void note() {
            int side = text().equals("left") ? 0 : 1;
            word(side == 0 ? "left" : "right");
            int first = whole(0, 23);
            word("before");
            word(side == 0 ? "right" : "left");
            t.notes.add(new Note(side, first, whole(0, 23)));
        }
    }

    // ---- weaving

    private static int last(State s, int side) {
        List<Integer> rows = s.rows.get(side);
        return rows.isEmpty() ? -1 : rows.get(rows.size() - 1);
    }

    private static int hindrance(Told t, State s, int side, int r) {
        int last = last(s, side);
        if (s.rows.get(side).size() == 24) {
            return 3;
        }
        if (last >= 0 && (t.kinds.get(last).seam() || !(side == 0 ? t.next[last][r] : t.next[r][last]))) {
            return 5;
        }
        return s.stores[side][t.kinds.get(r).colour()] < t.kinds.get(r).takes() ? 6 : 0;
    }

    private static void lay(Told t, State s, int side, int r) {
        s.rows.get(side).add(r);
        s.stores[side][t.kinds.get(r).colour()] -= t.kinds.get(r).takes();
    }

    private static void tear(Told t, State s, int side) {
        int r = s.rows.get(side).remove(s.rows.get(side).size() - 1);
        s.waste[side][t.kinds.get(r).colour()] += t.kinds.get(r).takes();
    }

    private int bits(State s, int side) {
        int bits = 0;
        for (int r = 0; r < told.kinds.size(); r++) {
            bits |= hindrance(told, s, side, r) == 0 ? 1 << r : 0;
        }
        return bits;
    }

    private int length(State s) {
        return s.rows.get(0).size() * told.hands[0] + s.rows.get(1).size() * told.hands[1];
    }

    private boolean meet(State s) {
        int l = last(s, 0);
        int r = last(s, 1);
        return l >= 0 && r >= 0 && told.next[l][r] && length(s) >= told.length && length(s) <= told.length + told.slack;
    }

    // ---- meetings

    /** All chains that a side can weave, of exactly so many rows. */
    private void chains(State s, int side, int rows, List<Integer> chain, List<List<Integer>> into) {
        if (rows == 0) {
            into.add(new ArrayList<>(chain));
            return;
        }
        for (int r = 0; r < told.kinds.size(); r++) {
            if (hindrance(told, s, side, r) == 0) {
                State then = s.copy();
                lay(told, then, side, r);
                chain.add(r);
                chains(then, side, rows - 1, chain, into);
                chain.remove(chain.size() - 1);
            }
        }
    }

    private List<Meeting> meetings(State s, int leftRipped, int rightRipped) {
        State bare = s.copy();
        for (int i = 0; i < leftRipped; i++) {
            tear(told, bare, 0);
        }
        for (int i = 0; i < rightRipped; i++) {
            tear(told, bare, 1);
        }
        List<Meeting> found = new ArrayList<>();
        int l = bare.rows.get(0).size();
        int r = bare.rows.get(1).size();
        Map<Integer, List<List<Integer>>> lefts = new HashMap<>();
        Map<Integer, List<List<Integer>>> rights = new HashMap<>();
        for (int i = 0; l + i <= 24; i++) {
            for (int j = 0; r + j <= 24; j++) {
                int units = (l + i) * told.hands[0] + (r + j) * told.hands[1];
                if (units < told.length || units > told.length + told.slack) {
                    continue;
                }
                for (List<Integer> left : chainsOf(lefts, bare, 0, i)) {
                    for (List<Integer> right : chainsOf(rights, bare, 1, j)) {
                        int a = left.isEmpty() ? last(bare, 0) : left.get(i - 1);
                        int b = right.isEmpty() ? last(bare, 1) : right.get(j - 1);
                        if (a >= 0 && b >= 0 && told.next[a][b]) {
                            found.add(new Meeting(leftRipped, rightRipped, left, right));
                        }
                    }
                }
            }
        }
        return found;
    }

    private List<List<Integer>> chainsOf(Map<Integer, List<List<Integer>>> known, State s, int side, int rows) {
        if (!known.containsKey(rows)) {
            List<List<Integer>> all = new ArrayList<>();
            chains(s, side, rows, new ArrayList<>(), all);
            known.put(rows, all);
        }
        return known.get(rows);
    }

    private Meeting best(State s) {
        int l = s.rows.get(0).size();
        int r = s.rows.get(1).size();
        Meeting best = null;
        for (int ripped = 0; ripped <= l + r && best == null; ripped++) {
            for (int byLeft = 0; byLeft <= Math.min(l, ripped); byLeft++) {
                if (ripped - byLeft <= r) {
                    for (Meeting m : meetings(s, byLeft, ripped - byLeft)) {
                        if (best == null || Arrays.compare(m.key(), best.key()) < 0) {
                            best = m;
                        }
                    }
                }
            }
        }
        return best;
    }

    private boolean isSure(int side, int r) {
        State s = state.copy();
        lay(told, s, side, r);
        int replies = bits(s, 1 - side);
        if (replies == 0) {
            return !meetings(s, 0, 0).isEmpty();
        }
        for (int q = 0; q < told.kinds.size(); q++) {
            if ((replies >> q & 1) == 1) {
                State then = s.copy();
                lay(told, then, 1 - side, q);
                if (meetings(then, 0, 0).isEmpty()) {
                    return false;
                }
            }
        }
        return true;
    }

    private int longest(State s, int side) {
        int most = 0;
        for (int r = 0; r < told.kinds.size(); r++) {
            if (hindrance(told, s, side, r) == 0) {
                State then = s.copy();
                lay(told, then, side, r);
                most = Math.max(most, 1 + longest(then, side));
            }
            if (most == 24 - s.rows.get(side).size()) {
                return most;
            }
        }
        return most;
    }

    // ---- motifs, orders

    private static String letters(List<Integer> rows) {
        StringBuilder all = new StringBuilder();
        for (int r : rows) {
            all.append((char) ('a' + r));
        }
        return all.toString();
    }

    private List<Integer> seenPlaces(int motif, int side) {
        Motif m = told.motifs.get(motif);
        String straight = letters(m.rows());
        String turned = new StringBuilder(straight).reverse().toString();
        StringBuilder grown = new StringBuilder();
        for (int i = 0; i < straight.length(); i++) {
            grown.append(straight.substring(i, i + 1).repeat(i + 1));
        }
        String side1 = letters(state.rows.get(side));
        List<Integer> places = new ArrayList<>();
        for (int i = 0; i < side1.length(); i++) {
            boolean is = switch (m.kind()) {
                case "plain" -> side1.startsWith(straight, i);
                case "mirrored" -> side1.startsWith(turned, i);
                case "turning" -> side1.startsWith(straight, i) || side1.startsWith(turned, i);
                default -> side1.startsWith(grown.toString(), i);
            };
            if (is) {
                places.add(i);
            }
        }
        return places;
    }

    /** Lays out every order as a row of sides and counts those that keep all notes. */
    private long orders(List<Note> notes, int l, int r, List<Integer> sides) {
        if (sides.size() == l + r) {
            return keeps(notes, sides) ? 1 : 0;
        }
        long sum = 0;
        for (int side = 0; side < 2; side++) {
            int side1 = side;
            if (sides.stream().filter(x -> x == side1).count() < (side == 0 ? l : r)) {
                sides.add(side);
                sum += orders(notes, l, r, sides);
                sides.remove(sides.size() - 1);
            }
        }
        return sum;
    }

    private static int when(List<Integer> sides, int side, int place) {
        int seen = -1;
        for (int i = 0; i < sides.size(); i++) {
            if (sides.get(i) == side && ++seen == place) {
                return i;
            }
        }
        return -1;
    }

    private static boolean keeps(List<Note> notes, List<Integer> sides) {
        for (Note n : notes) {
            int first = when(sides, n.firstSide(), n.first());
            int latter = when(sides, 1 - n.firstSide(), n.latter());
            if (latter >= 0 && (first < 0 || first > latter)) {
                return false;
            }
        }
        return true;
    }

    // ---- the calls, by name

    /** Answers a call as a number; -9 stands for NoSuchElementException. */
    long call(String name, int[] a) {
        switch (name) {
            case "feed": return feed(a);
            case "cloth": return clothOf(a[0]);
            case "fault": return fault;
            case "where": return trouble == 4 ? place : -1;
            case "trouble": return trouble;
            case "size": return size(a[0]);
            case "led": return led(a[0]);
            default:
                trouble = 0;
                return refusable(name, a);
        }
    }

    private long feed(int[] a) {
        if (tape.length() + 20 > 900) {
            return -1;
        }
        for (int v : a) {
            for (int shift = 24; shift >= 0; shift -= 8) {
                tape.append((char) (v >>> shift & 255));
            }
        }
        return tape.length();
    }

    private long clothOf(int n) {
        trouble = 0;
        if (n < 0 || n > tape.length()) {
            return no(2);
        }
        Parser p = new Parser(tape.substring(0, n));
        tape = new StringBuilder();
        try {
            p.parse();
        } catch (Fault f) {
            fault = f.number;
            place = f.place;
            return no(4);
        }
        fault = 0;
        told = p.t;
        state = p.s;
        acts.clear();
        marks.clear();
        return told.kinds.size();
    }

    private int size(int what) {
        if (what == 12) {
            return tape.length();
        }
        if (what < 0 || what > 12) {
            return -1;
        }
        if (told == null) {
            return 0;
        }
        return new int[] {told.kinds.size(), told.colours.size(), told.motifs.size(), told.notes.size(), told.length,
            told.slack, told.hands[0], told.hands[1], told.rate, state.weeks, acts.size(), marks.size()}[what];
    }

    private int led(int i) {
        List<Integer> none = new ArrayList<>();
        for (int r = 0; told != null && r < told.kinds.size(); r++) {
            if (((bits(state, 0) | bits(state, 1)) >> r & 1) == 0) {
                none.add(r);
            }
        }
        return i >= 0 && i < none.size() ? none.get(i) : -9;
    }

    private void act() {
        acts.add(state.copy());
        if (acts.size() > 12) {
            acts.remove(0);
        }
    }

    private long refusable(String name, int[] a) {
        switch (name) {
            case "undo":
                if (acts.isEmpty()) {
                    no(6);
                    return 0;
                }
                state = acts.remove(acts.size() - 1);
                return 1;
            case "back":
                if (a[0] < 0 || a[0] >= marks.size()) {
                    no(1);
                    return 0;
                }
                state = marks.get(a[0]).copy();
                acts.clear();
                return 1;
            case "weave": return weave(a[0], a[1]);
            case "rip": return rip(a[0]);
            default: return told == null ? no(1) : asked(name, a);
        }
    }

    private long weave(int side, int r) {
        if (noSide(side) || noKind(r)) {
            no(1);
            return 0;
        }
        trouble = hindrance(told, state, side, r);
        if (trouble != 0) {
            return 0;
        }
        act();
        lay(told, state, side, r);
        return 1;
    }

    private long rip(int side) {
        if (noSide(side)) {
            no(1);
            return 0;
        }
        if (state.rows.get(side).isEmpty()) {
            no(6);
            return 0;
        }
        act();
        tear(told, state, side);
        return 1;
    }

    private long weeks(int n) {
        if (n < 1 || n > 9) {
            return no(2);
        }
        act();
        int count = 0;
        for (int week = 0; week < n; week++) {
            for (int side = 0; side < 2; side++) {
                for (int i = 0; i < told.rate; i++) {
                    Meeting m = best(state);
                    if (m == null || m.leftRipped() + m.rightRipped() > 0) {
                        continue;
                    }
                    List<Integer> own = side == 0 ? m.left() : m.right();
                    if (!own.isEmpty()) {
                        lay(told, state, side, own.get(0));
                        count++;
                    }
                }
            }
            state.weeks++;
        }
        return count;
    }

    private long asked(String name, int[] a) {
        switch (name) {
            case "row":
                if (noKind(a[0]) || a[1] < 0 || a[1] > 3) {
                    return no(1);
                }
                Kind k = told.kinds.get(a[0]);
                return new int[] {k.colour(), k.takes(), k.seam() ? 1 : 0, told.partners.getOrDefault(a[0], a[0])}[a[1]];
            case "next": return noKind(a[0]) || noKind(a[1]) ? no(1) : told.next[a[0]][a[1]] ? 1 : 0;
            case "instead": return noKind(a[0]) || noKind(a[1]) || a[0] == a[1] ? no(1) : stands(a[0], a[1]) ? 1 : 0;
            case "spare": return noKind(a[0]) ? no(1) : spare(a[0]);
            case "rows": return noSide(a[0]) ? no(1) : state.rows.get(a[0]).size();
            case "at": return noRow(a[0], a[1]) ? no(1) : state.rows.get(a[0]).get(a[1]);
            case "colour": return noSide(a[0]) || noColour(a[1]) || a[2] < 0 || a[2] > 2 ? no(1) : colour(a[0], a[1], a[2]);
            case "units": return length(state);
            case "may": return noSide(a[0]) ? no(1) : bits(state, a[0]);
            case "weeks": return weeks(a[0]);
            case "meets": return meet(state) ? 1 : 0;
            case "meeting": return a[0] < 0 || a[0] > 3 ? no(1) : meeting(a[0]);
            case "woven": return woven(a[0]);
            case "takes": return noSide(a[0]) || noColour(a[1]) ? no(1) : takes(a[0], a[1]);
            case "far": return noSide(a[0]) ? no(1) : longest(state, a[0]);
            case "ways":
                BigInteger ways = BigInteger.valueOf(meetings(state, 0, 0).size());
                return ways.min(BigInteger.TEN.pow(18)).longValue();
            case "sure":
                if (noSide(a[0]) || noKind(a[1])) {
                    return no(1);
                }
                return (bits(state, a[0]) >> a[1] & 1) == 0 ? no(5) : isSure(a[0], a[1]) ? 1 : 0;
            case "sureRows": return noSide(a[0]) ? no(1) : sureRows(a[0]);
            default: return askedMore(name, a);
        }
    }

    private boolean noRow(int side, int place1) {
        return noSide(side) || place1 < 0 || place1 >= state.rows.get(side).size();
    }

    private boolean stands(int r, int other) {
        if (r == other || told.kinds.get(r).seam() != told.kinds.get(other).seam()) {
            return false;
        }
        for (int q = 0; q < told.kinds.size(); q++) {
            if (told.next[q][other] && !told.next[q][r] || told.next[other][q] && !told.next[r][q]) {
                return false;
            }
        }
        return true;
    }

    private int spare(int r) {
        for (int q = 0; q < told.kinds.size(); q++) {
            if (stands(q, r) && told.kinds.get(q).colour() != told.kinds.get(r).colour()) {
                return q;
            }
        }
        return -2;
    }

    private int colour(int side, int colour, int what) {
        int inCloth = 0;
        for (int r : state.rows.get(side)) {
            inCloth += told.kinds.get(r).colour() == colour ? told.kinds.get(r).takes() : 0;
        }
        int all = state.stores[side][colour] + inCloth + state.waste[side][colour];
        if (all != told.colours.get(colour)[side]) {
            throw new IllegalStateException("the model lost colour");
        }
        return new int[] {state.stores[side][colour], inCloth, state.waste[side][colour]}[what];
    }

    private int meeting(int what) {
        Meeting m = best(state);
        return m == null ? -2 : m.key()[what];
    }

    private int woven(int i) {
        if (i < 0) {
            return no(1);
        }
        Meeting m = best(state);
        if (m == null) {
            return no(6);
        }
        return i < m.across().size() ? m.across().get(i) : no(1);
    }

    private int takes(int side, int colour) {
        Meeting m = best(state);
        if (m == null) {
            return no(6);
        }
        int sum = 0;
        for (int r : side == 0 ? m.left() : m.right()) {
            sum += told.kinds.get(r).colour() == colour ? told.kinds.get(r).takes() : 0;
        }
        return sum;
    }

    private int sureRows(int side) {
        int bits = 0;
        for (int r = 0; r < told.kinds.size(); r++) {
            bits |= (bits(state, side) >> r & 1) == 1 && isSure(side, r) ? 1 << r : 0;
        }
        return bits;
    }

    private long askedMore(String name, int[] a) {
        List<Integer> left = state.rows.get(0);
        List<Integer> right = state.rows.get(1);
        int both = Math.min(left.size(), right.size());
        List<Integer> wrong = new ArrayList<>();
        for (int i = 0; i < both; i++) {
            if (!told.partners.getOrDefault(left.get(i), left.get(i)).equals(right.get(i))) {
                wrong.add(i);
            }
        }
        switch (name) {
            case "third": return both == 0 ? no(6) : third(last(state, 0), last(state, 1));
            case "answered": return a[0] < 0 || a[0] > 23 ? no(1) : a[0] >= both ? no(6) : wrong.contains(a[0]) ? 0 : 1;
            case "wrongs": return wrong.size();
            case "mend": return wrong.isEmpty() ? 0 : Math.min(left.size() - wrong.get(0), right.size() - wrong.get(0));
            case "mendBy": return wrong.isEmpty() ? -2 : right.size() < left.size() ? 1 : 0;
            case "seen": return noMotif(a[0]) || noSide(a[1]) ? no(1) : seenPlaces(a[0], a[1]).size();
            case "seenAt":
                if (noMotif(a[0]) || noSide(a[1])) {
                    return no(1);
                }
                return seenPlaces(a[0], a[1]).isEmpty() ? -2 : seenPlaces(a[0], a[1]).get(0);
            case "orders": return orders(told.notes, left.size(), right.size(), new ArrayList<>());
            case "ahead":
                if (noRow(0, a[0]) || noRow(1, a[1])) {
                    return no(1);
                }
                List<Note> more = new ArrayList<>(told.notes);
                more.add(new Note(0, a[0], a[1]));
                return orders(more, left.size(), right.size(), new ArrayList<>());
            case "mark":
                if (marks.size() == 3) {
                    return no(3);
                }
                marks.add(state.copy());
                return marks.size() - 1;
            default: throw new NoSuchElementException(name);
        }
    }

    private boolean noMotif(int motif) {
        return motif < 0 || motif >= told.motifs.size();
    }

    private int third(int l, int r) {
        int bits = 0;
        for (int q = 0; q < told.kinds.size(); q++) {
            bits |= told.next[l][q] && told.next[q][r] ? 1 << q : 0;
        }
        return bits;
    }

    /** How many rows stand, so that a test can keep to what the model can count. */
    int standing() {
        return told == null ? 0 : state.rows.get(0).size() + state.rows.get(1).size();
    }
}
