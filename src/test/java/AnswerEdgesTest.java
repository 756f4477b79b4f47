/** Promises 28 to 35 and what Terms II says of them: each bound of places, motifs, orders, and each refusal. */
public final class AnswerEdgesTest {
    private static final String TEXT = "cloth length 60 slack 0 left 1 right 1 rate 1;colour r left 9 right 9;row a of r 0;row b of r 0;"
        + "row c of r 0;next a then a,b,c;next b then a,b,c;next c then a,b,c;answers a b";
    /** C(48, 24): all orders of two full sides. */
    private static final long FULL = 32247603683100L;

    public static void main(String[] args) {
        answeredPlaces();
        wrongsAndMend();
        seenIsRefused();
        plainAndMirrored();
        turning();
        growing();
        notes();
        notesOfTheLastPlace();
        ahead();
        Check.end();
    }

    private static String side(String name, String rows) {
        return rows.isEmpty() ? "" : ";" + name + " " + String.join(",", rows.split(""));
    }

    private static Run standing(String more, String left, String right) {
        return new Run().told(TEXT + more + side("left", left) + side("right", right));
    }

    /** Both sides with 24 rows: a on the left, b on the right, but for what the right's last one is. */
    private static Run full(String more, int last) {
        return standing(more, "a".repeat(12), "b".repeat(12)).times(12, "weave(0, 0)").times(11, "weave(1, 1)").times(1, "weave(1, " + last + ")");
    }

    // ---- answers

    private static void answeredPlaces() {
        Check.about("answered: 1, 0; NONE: 1 (place 0 .. 23); 6 (a side has no row there)");
        Run run = standing("", "abc", "ba").due("answered(0)", 1).due("answered(1)", 1).refused(6, "answered(2)", "answered(3)", "answered(23)");
        run.refused(1, "answered(-1)", "answered(24)", "answered(max)", "answered(min)").due("weave(1, 0)", 1).due("answered(2)", 0).end();
        standing("", "ab", "bac").refused(6, "answered(2)").due("answered(1)", 1).end();
        standing("", "", "").refused(6, "answered(0)", "answered(23)").refused(1, "answered(24)", "answered(-1)").end();
        standing("", "a", "").refused(6, "answered(0)").end();
        standing("", "", "a").refused(6, "answered(0)").end();
        full("", 1).due("answered(0)", 1).due("answered(23)", 1).refused(1, "answered(24)").due("rip(0)", 1).refused(6, "answered(23)").end();
        full("", 0).due("answered(22)", 1).due("answered(23)", 0).end();
        Check.about("ANSWERED: PARTNERS, either way; itself without");
        int[][] due = {{0, 1, 0}, {1, 0, 0}, {0, 0, 1}};
        for (int left = 0; left < 3; left++) {
            for (int right = 0; right < 3; right++) {
                standing("", "", "").all(1, "weave(0, " + left + ")", "weave(1, " + right + ")").due("answered(0)", due[left][right]).end();
            }
        }
        new Run().told(TEXT.replace("answers a b", "answers a a") + ";left a,b;right a,a").due("answered(0)", 1).due("answered(1)", 0).end();
    }

    private static void wrongsAndMend() {
        Check.about("wrongs, mend, mendBy: all are ANSWERED");
        standing("", "", "").due("wrongs()", 0).due("mend()", 0).due("mendBy()", -2).end();
        standing("", "a", "").due("wrongs()", 0).due("mend()", 0).due("mendBy()", -2).end();
        standing("", "", "c").due("wrongs()", 0).due("mend()", 0).due("mendBy()", -2).end();
        standing("", "abcc", "bac").due("wrongs()", 0).due("mend()", 0).due("mendBy()", -2).end();
        Check.about("MEND: by which side fewest rows are ripped, the left if it is like");
        standing("", "a", "a").due("wrongs()", 1).due("mend()", 1).due("mendBy()", 0).end();
        standing("", "aa", "a").due("wrongs()", 1).due("mend()", 1).due("mendBy()", 1).end();
        standing("", "a", "aa").due("wrongs()", 1).due("mend()", 1).due("mendBy()", 0).end();
        Check.about("MEND: down to the first that isn't");
        standing("", "acbc", "bcbc").due("wrongs()", 1).due("mend()", 2).due("mendBy()", 0).end();
        standing("", "ccba", "acba").due("wrongs()", 3).due("mend()", 4).due("mendBy()", 0).end();
        standing("", "accccc", "bcca").due("wrongs()", 1).due("mend()", 1).due("mendBy()", 1).end();
        standing("", "acca", "bccccc").due("wrongs()", 1).due("mend()", 1).due("mendBy()", 0).end();
        Check.about("wrongs, mend: 24 rows on both sides");
        full("", 1).due("wrongs()", 0).due("mend()", 0).end();
        full("", 0).due("wrongs()", 1).due("mend()", 1).due("mendBy()", 0).due("rip(1)", 1).due("mend()", 0).due("mendBy()", -2).end();
        standing("", "a".repeat(12), "a".repeat(12)).times(12, "weave(0, 0)").times(12, "weave(1, 0)").due("wrongs()", 24).due("mend()", 24)
            .due("mendBy()", 0).due("rip(1)", 1).due("mend()", 23).due("mendBy()", 1).end();
    }

    // ---- motifs

    private static void seenIsRefused() {
        for (String call : new String[] {"seen", "seenAt"}) {
            Check.about(call + ": NONE: 1");
            Run run = standing(";motif m plain a;motif n plain b", "a", "").times(1, call + "(0, 0)").times(1, call + "(1, 1)");
            run.refused(1, call + "(-1, 0)", call + "(2, 0)", call + "(0, -1)", call + "(0, 2)", call + "(max, 0)", call + "(min, 0)");
            run.refused(1, call + "(0, max)", call + "(0, min)").end();
            standing("", "a", "").refused(1, call + "(0, 0)").end();
        }
        Check.about("seenAt: the first place where it is; -2");
        standing(";motif m plain c", "abc", "").due("seenAt(0, 0)", 2).due("seenAt(0, 1)", -2).due("seen(0, 0)", 1).due("seen(0, 1)", 0).end();
    }

    private static void seen(String motif, String rows, int count, int first) {
        standing(";motif m " + motif, rows, "").due("seen(0, 0)", count).due("seenAt(0, 0)", first).due("seen(0, 1)", 0).end();
        standing(";motif m " + motif, "", rows).due("seen(0, 1)", count).due("seenAt(0, 1)", first).due("seen(0, 0)", 0).end();
    }

    private static void plainAndMirrored() {
        Check.about("plain: its ROWS, one behind the other");
        seen("plain a,b", "", 0, -2);
        seen("plain a,b", "a", 0, -2);
        seen("plain a,b", "ab", 1, 0);
        seen("plain a,b", "ba", 0, -2);
        seen("plain a,b", "cccab", 1, 3);
        seen("plain a,b", "ccabc", 1, 2);
        seen("plain a,a", "aaaa", 3, 0);
        seen("plain a,b,c,a", "abcabcabca", 3, 0);
        seen("plain a,b,c,a", "abc", 0, -2);
        seen("plain c", "aaac", 1, 3);
        Check.about("mirrored: the other way round");
        seen("mirrored a,b", "ba", 1, 0);
        seen("mirrored a,b", "ab", 0, -2);
        seen("mirrored a,b", "b", 0, -2);
        seen("mirrored a,b,b,c", "acbbacbba", 2, 1);
        seen("mirrored c", "aaac", 1, 3);
        Check.about("A MOTIF at the last place of 24 rows");
        standing(";motif m plain c", "a".repeat(12), "").times(11, "weave(0, 0)").due("seen(0, 0)", 0).due("weave(0, 2)", 1).due("seen(0, 0)", 1)
            .due("seenAt(0, 0)", 23).end();
        standing(";motif m mirrored c,a", "", "a".repeat(12)).times(11, "weave(1, 0)").due("seenAt(0, 1)", -2).due("weave(1, 2)", 1)
            .due("seenAt(0, 1)", 22).end();
        standing(";motif m plain a", "a".repeat(12), "").times(12, "weave(0, 0)").due("seen(0, 0)", 24).due("seenAt(0, 0)", 0).end();
    }

    private static void turning() {
        Check.about("turning: plain, or else mirrored");
        seen("turning a,b", "ab", 1, 0);
        seen("turning a,b", "ba", 1, 0);
        seen("turning a,b", "aba", 2, 0);
        seen("turning a,b", "caab", 1, 2);
        seen("turning a,b,c", "cbabc", 2, 0);
        seen("turning a,b,c", "ab", 0, -2);
        Check.about("turning: a place where it is both counts once");
        seen("turning a,a", "aaa", 2, 0);
        seen("turning a,b,a", "aba", 1, 0);
        seen("turning c", "acc", 2, 1);
    }

    private static void growing() {
        Check.about("growing: its first ROW once, its second twice, and so on");
        seen("growing a", "bab", 1, 1);
        seen("growing a,b", "abb", 1, 0);
        seen("growing a,b", "ab", 0, -2);
        seen("growing a,b", "cabbb", 1, 1);
        seen("growing a,b,c", "abbccc", 1, 0);
        seen("growing a,b,c", "abbcc", 0, -2);
        seen("growing a,b,c", "abccc", 0, -2);
        seen("growing a,b,c,a", "abbcccaaaa", 1, 0);
        seen("growing a,b,c,a", "abbcccaaa", 0, -2);
        seen("growing a,b,c,a", "ccabbcccaaaa", 1, 2);
        seen("growing a,a,a,a", "a".repeat(9), 0, -2);
        seen("growing a,a,a,a", "a".repeat(10), 1, 0);
        seen("growing a,a,a,a", "a".repeat(12), 3, 0);
        Check.about("growing: of 24 rows");
        standing(";motif m growing a,a,a,a", "a".repeat(12), "").times(12, "weave(0, 0)").due("seen(0, 0)", 15).end();
        standing(";motif m growing b,a,a,a", "a".repeat(12), "").all(1, "weave(0, 0)", "weave(0, 0)", "weave(0, 1)").times(8, "weave(0, 0)")
            .due("seenAt(0, 0)", -2).due("weave(0, 0)", 1).due("seenAt(0, 0)", 14).due("rows(0)", 24).end();
    }

    // ---- orders

    private static void orders(String notes, String left, String right, long due) {
        standing(notes, left, right).due("orders()", due).end();
    }

    private static void notes() {
        Check.about("ORDERS: each side's in order, one at a time");
        orders("", "", "", 1);
        orders("", "a", "", 1);
        orders("", "", "aaa", 1);
        orders("", "a", "a", 2);
        orders("", "aa", "aaa", 10);
        Check.about("ORDERS: of each note the one comes ahead of the other");
        orders(";note left 0 before right 0", "a", "a", 1);
        orders(";note right 0 before left 0", "a", "a", 1);
        orders(";note left 1 before right 0", "aa", "aaa", 1);
        orders(";note right 2 before left 0", "aa", "aaa", 1);
        orders(";note left 0 before right 2", "aa", "aaa", 9);
        orders(";note right 0 before left 1", "aa", "aaa", 9);
        orders(";note left 0 before right 0;note right 0 before left 0", "aa", "aaa", 0);
        orders(";note left 0 before right 0;note right 2 before left 1", "aa", "aaa", 1);
        orders(";note left 0 before right 1;note left 1 before right 1;note left 0 before right 1", "aa", "aaa", 3);
        orders(";note right 0 before left 1;note right 1 before left 1;note right 0 before left 1", "aa", "aaa", 7);
        Check.about("ORDERS: if just the latter is: none");
        orders(";note left 1 before right 0", "a", "a", 0);
        orders(";note left 0 before right 0", "", "a", 0);
        orders(";note right 1 before left 0", "a", "a", 0);
        orders(";note right 0 before left 0", "a", "", 0);
        Check.about("ORDERS: if just the former is, or none of both");
        orders(";note left 0 before right 1", "a", "a", 2);
        orders(";note right 0 before left 1", "a", "a", 2);
        orders(";note left 0 before right 0", "a", "", 1);
        orders(";note right 0 before left 0", "", "a", 1);
        orders(";note left 0 before right 0", "", "", 1);
        orders(";note left 1 before right 1;note right 1 before left 1", "a", "a", 2);
        Check.about("ORDERS: notes of another CLOTH are gone");
        standing(";note left 0 before right 0", "a", "a").due("orders()", 1).told(TEXT + ";left a;right a").due("orders()", 2).end();
        standing(";note right 0 before left 0", "a", "a").due("orders()", 1).told(TEXT + ";left a;right a").due("orders()", 2).end();
        Check.about("ORDERS: six notes");
        String six = ";note left 0 before right 0;note right 0 before left 1;note left 1 before right 1;note right 1 before left 2;"
            + "note left 2 before right 2;note right 2 before left 3";
        orders(six, "aaaa", "aaaa", 2);
        orders(six, "aaa", "aaa", 1);
        orders(six, "aaa", "aaaa", 1);
        orders(six, "aaaa", "aaa", 1);
    }

    private static void notesOfTheLastPlace() {
        Check.about("ORDERS: of 24 and 24 rows");
        full("", 1).due("orders()", FULL).end();
        full(";note left 23 before right 0", 1).due("orders()", 1).due("ahead(23, 0)", 1).due("ahead(0, 23)", 1).end();
        full(";note right 23 before left 0", 1).due("orders()", 1).due("ahead(0, 0)", 0).due("ahead(0, 23)", 0).end();
        full(";note left 0 before right 23", 1).due("orders()", FULL - 1).end();
        full(";note left 23 before right 23", 1).due("orders()", FULL / 2).due("rip(0)", 1).due("orders()", 0).due("rip(1)", 1)
            .times(1, "orders()").end();
        full(";note right 23 before left 23", 1).due("orders()", FULL / 2).due("rip(1)", 1).due("orders()", 0).end();
    }

    private static void ahead() {
        Check.about("ahead: -1: 1 (no such rows)");
        Run run = standing("", "aa", "aaa").due("ahead(0, 0)", 4).due("ahead(1, 2)", 6).due("ahead(1, 0)", 1).due("ahead(0, 2)", 9);
        run.refused(1, "ahead(-1, 0)", "ahead(2, 0)", "ahead(0, -1)", "ahead(0, 3)", "ahead(max, 0)", "ahead(0, min)", "ahead(24, 24)").end();
        standing("", "", "a").refused(1, "ahead(0, 0)").end();
        standing("", "a", "").refused(1, "ahead(0, 0)").end();
        standing("", "", "").refused(1, "ahead(0, 0)").end();
        run = full("", 1).due("ahead(23, 0)", 1).due("ahead(0, 23)", FULL - 1).due("ahead(23, 23)", FULL / 2).due("ahead(0, 0)", FULL / 2);
        run.refused(1, "ahead(24, 0)", "ahead(0, 24)").end();
        Check.about("ahead: in how many of them");
        run = standing(";note right 0 before left 1", "aa", "aaa").due("orders()", 9).due("ahead(1, 0)", 0).due("ahead(0, 0)", 3);
        run.due("ahead(0, 2)", 8).due("orders()", 9).end();
        standing(";note left 3 before right 0", "aa", "aaa").due("orders()", 0).due("ahead(0, 0)", 0).end();
    }
}
