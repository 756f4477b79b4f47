/** Promises 10 to 18: what is woven, weaving and ripping, colours, weeks, undoing. */
public final class WovenTest {
    private static final String START = "cloth length 12 slack 2 left 2 right 3 rate 1;colour r left 5 right 4;"
        + "colour g left 2 right 3;row a of r 1;row b of g 2;row s of r 0 seam;"
        + "next a then a,b,s;next b then a;next s then a";

    public static void main(String[] args) {
        withoutCloth();
        ahead();
        weaving();
        room();
        ripping();
        weeks();
        undoing();
        Check.end();
    }

    private static void withoutCloth() {
        TwoWeavers x = new TwoWeavers();
        Check.due(x, "rows(0)", x.rows(0), -1, 1);
        Check.due(x, "at(0, 0)", x.at(0, 0), -1, 1);
        Check.due(x, "colour(0, 0, 0)", x.colour(0, 0, 0), -1, 1);
        Check.due(x, "units()", x.units(), -1, 1);
        Check.due(x, "may(0)", x.may(0), -1, 1);
        Check.due(x, "weave(0, 0)", x.weave(0, 0), false, 1);
        Check.due(x, "rip(0)", x.rip(0), false, 1);
        Check.due(x, "weeks(1)", x.weeks(1), -1, 1);
        Check.due(x, "weeks(0)", x.weeks(0), -1, 1);
        Check.due(x, "undo()", x.undo(), false, 6);
    }

    private static void ahead() {
        TwoWeavers x = Check.told(START + ";left a,b;right b,a,a");
        Check.due(x, "rows(0)", x.rows(0), 2, 0);
        Check.due(x, "rows(1)", x.rows(1), 3, 0);
        Check.due(x, "rows(2)", x.rows(2), -1, 1);
        Check.due(x, "rows(-1)", x.rows(-1), -1, 1);
        Check.due(x, "at(0, 1)", x.at(0, 1), 1, 0);
        Check.due(x, "at(1, 0)", x.at(1, 0), 1, 0);
        Check.due(x, "at(1, 2)", x.at(1, 2), 0, 0);
        Check.due(x, "at(0, 2)", x.at(0, 2), -1, 1);
        Check.due(x, "at(0, -1)", x.at(0, -1), -1, 1);
        Check.due(x, "at(2, 0)", x.at(2, 0), -1, 1);
        Check.due(x, "colour(0, 0, 0)", x.colour(0, 0, 0), 4, 0);
        Check.due(x, "colour(0, 1, 0)", x.colour(0, 1, 0), 0, 0);
        Check.due(x, "colour(1, 0, 0)", x.colour(1, 0, 0), 2, 0);
        Check.due(x, "colour(1, 0, 1)", x.colour(1, 0, 1), 2, 0);
        Check.due(x, "colour(1, 1, 1)", x.colour(1, 1, 1), 2, 0);
        Check.due(x, "colour(1, 1, 2)", x.colour(1, 1, 2), 0, 0);
        Check.due(x, "colour(1, 2, 0)", x.colour(1, 2, 0), -1, 1);
        Check.due(x, "colour(1, -1, 0)", x.colour(1, -1, 0), -1, 1);
        Check.due(x, "colour(2, 0, 0)", x.colour(2, 0, 0), -1, 1);
        Check.due(x, "colour(0, 0, 3)", x.colour(0, 0, 3), -1, 1);
        Check.due(x, "colour(0, 0, -1)", x.colour(0, 0, -1), -1, 1);
        Check.due(x, "units()", x.units(), 13, 0);
        Check.due(x, "may(0): behind b just a", x.may(0), 1, 0);
        Check.due(x, "may(1): left of a; not g enough for b", x.may(1), 5, 0);
        Check.due(x, "may(2)", x.may(2), -1, 1);
        Check.due("size(10): what is told is no act", x.size(10), 0);
    }

    private static void weaving() {
        TwoWeavers x = Check.told(START);
        Check.due(x, "may(0): the first may be any", x.may(0), 7, 0);
        Check.due(x, "may(1)", x.may(1), 7, 0);
        Check.due(x, "weave(2, 0)", x.weave(2, 0), false, 1);
        Check.due(x, "weave(-1, 0)", x.weave(-1, 0), false, 1);
        Check.due(x, "weave(0, 3)", x.weave(0, 3), false, 1);
        Check.due(x, "weave(0, -1)", x.weave(0, -1), false, 1);
        Check.due(x, "weave(0, 1)", x.weave(0, 1), true, 0);
        Check.due("may(0)", x.may(0), 1);
        Check.due(x, "weave(0, 1): not behind b", x.weave(0, 1), false, 5);
        Check.due(x, "weave(0, 0)", x.weave(0, 0), true, 0);
        Check.due(x, "weave(0, 1): g is used up", x.weave(0, 1), false, 6);
        Check.due(x, "weave(0, 2)", x.weave(0, 2), true, 0);
        Check.due("may(0): behind a seam row none", x.may(0), 0);
        Check.due(x, "weave(0, 0): behind a seam row", x.weave(0, 0), false, 5);
        Check.due(x, "weave(1, 0)", x.weave(1, 0), true, 0);
        Check.due("may(1): what may stand left of a", x.may(1), 7);
        Check.due(x, "weave(1, 1)", x.weave(1, 1), true, 0);
        Check.due("may(1): what may stand left of b", x.may(1), 1);
        Check.due(x, "weave(1, 2): s not left of b", x.weave(1, 2), false, 5);
        Check.due("rows(0)", x.rows(0), 3);
        Check.due("units()", x.units(), 12);
        Check.due("size(10)", x.size(10), 5);
    }

    private static void room() {
        String free = "cloth length 4 slack 0 left 1 right 1 rate 1;colour r left 1 right 1;row a of r 0;"
            + "row b of r 3;row s of r 0 seam;next a then a,s";
        TwoWeavers x = Check.told(free + ";left a" + ",a".repeat(11));
        for (int i = 12; i < 24; i++) {
            Check.due("weave(0, 0)", x.weave(0, 0), true);
        }
        Check.due(x, "rows(0)", x.rows(0), 24, 0);
        Check.due("at(0, 23)", x.at(0, 23), 0);
        Check.due(x, "at(0, 24)", x.at(0, 24), -1, 1);
        Check.due("may(0)", x.may(0), 0);
        Check.due(x, "weave(0, 0): 24 rows are", x.weave(0, 0), false, 3);
        Check.due(x, "weave(0, 1): room comes first", x.weave(0, 1), false, 3);
        Check.due(x, "weave(1, 1)", x.weave(1, 1), false, 6);
        Check.due("size(10)", x.size(10), 12);
        Check.due("rip(0)", x.rip(0), true);
        Check.due("weave(0, 2)", x.weave(0, 2), true);
        Check.due(x, "weave(0, 0)", x.weave(0, 0), false, 3);
    }

    private static void ripping() {
        TwoWeavers x = Check.told(START + ";left a,s;right b");
        Check.due(x, "rip(2)", x.rip(2), false, 1);
        Check.due(x, "rip(-1)", x.rip(-1), false, 1);
        Check.due(x, "rip(0)", x.rip(0), true, 0);
        Check.due("may(0), the seam row is gone", x.may(0), 7);
        Check.due(x, "rip(1)", x.rip(1), true, 0);
        Check.due("colour(1, 1, 0)", x.colour(1, 1, 0), 1);
        Check.due("colour(1, 1, 1)", x.colour(1, 1, 1), 0);
        Check.due("colour(1, 1, 2)", x.colour(1, 1, 2), 2);
        Check.due(x, "rip(1)", x.rip(1), false, 6);
        Check.due(x, "weave(1, 1): what is ripped is gone", x.weave(1, 1), false, 6);
        Check.due("rip(0)", x.rip(0), true);
        Check.due("rows(0)", x.rows(0), 0);
        Check.due("may(0): any again", x.may(0), 7);
        Check.due("colour(0, 0, 2)", x.colour(0, 0, 2), 1);
    }

    private static void weeks() {
        TwoWeavers x = Check.told("cloth length 7 slack 0 left 1 right 1 rate 2;colour r left 9 right 2;"
            + "row a of r 1;row b of r 1;next a then a,b;next b then b");
        // the right can weave two, so the left must weave five: a a a a a, then a, a
        Check.due(x, "weeks(0)", x.weeks(0), -1, 2);
        Check.due(x, "weeks(10)", x.weeks(10), -1, 2);
        Check.due("size(9)", x.size(9), 0);
        Check.due(x, "weeks(1)", x.weeks(1), 4, 0);
        Check.due("rows(0)", x.rows(0), 2);
        Check.due("rows(1)", x.rows(1), 2);
        Check.due("size(9)", x.size(9), 1);
        Check.due(x, "weeks(9)", x.weeks(9), 3, 0);
        Check.due("meets()", x.meets(), 1);
        Check.due("size(9)", x.size(9), 10);
        Check.due("size(10)", x.size(10), 2);
        Check.due(x, "weeks(1): they meet, no row is left for a side", x.weeks(1), 0, 0);
        Check.due("size(10): it is an act all the same", x.size(10), 3);
        Check.due("undo()", x.undo(), true);
        Check.due("undo()", x.undo(), true);
        Check.due("size(9)", x.size(9), 1);
        Check.due("rows(0)", x.rows(0), 2);
        Check.due("rip(1)", x.rip(1), true);
        Check.due("meeting(0): none but by ripping is no reason to weave", x.meeting(0), 0);
        x = Check.told("cloth length 4 slack 0 left 1 right 1 rate 5;colour r left 9 right 9;"
            + "row a of r 1;row b of r 1;next a then a;next b then b;left a;right b");
        Check.due("meeting(0)", x.meeting(0), 1);
        Check.due(x, "weeks(3): BEST rips", x.weeks(3), 0, 0);
        Check.due("rows(0)", x.rows(0), 1);
        Check.due("size(9)", x.size(9), 3);
        // each side's own rows, in the order in which it weaves them
        x = Check.told("cloth length 6 slack 0 left 1 right 1 rate 5;colour r left 3 right 3;"
            + "row a of r 1;row b of r 1;row c of r 1;row d of r 1;row e of r 1;row f of r 1;"
            + "next a then b;next b then c;next c then d;next d then e;next e then f");
        Check.due("weeks(1)", x.weeks(1), 6);
        for (int i = 0; i < 3; i++) {
            Check.due("at(0, " + i + ")", x.at(0, i), i);
            Check.due("at(1, " + i + ")", x.at(1, i), 5 - i);
        }
    }

    private static void undoing() {
        TwoWeavers x = Check.told("cloth length 60 slack 9 left 1 right 1 rate 1;colour r left 9 right 9;"
            + "row a of r 0;row b of r 1;next a then a,b;next b then a,b");
        for (int i = 0; i < 10; i++) {
            x.weave(0, i % 2);
        }
        for (int i = 0; i < 3; i++) {
            x.rip(0);
        }
        Check.due("size(10): twelve are kept", x.size(10), 12);
        Check.due("colour(0, 0, 2)", x.colour(0, 0, 2), 2);
        Check.due(x, "undo()", x.undo(), true, 0);
        Check.due("colour(0, 0, 2)", x.colour(0, 0, 2), 1);
        Check.due("rows(0)", x.rows(0), 8);
        Check.due("at(0, 7)", x.at(0, 7), 1);
        for (int i = 0; i < 11; i++) {
            Check.due("undo()", x.undo(), true);
        }
        Check.due(x, "undo()", x.undo(), false, 6);
        Check.due("rows(0): the first act can't be undone any more", x.rows(0), 1);
        Check.due("colour(0, 0, 0)", x.colour(0, 0, 0), 9);
        Check.due("size(10)", x.size(10), 0);
    }
}
