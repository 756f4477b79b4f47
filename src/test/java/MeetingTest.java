/** Promises 19 to 27: whether they meet, the best meeting, ways, sure rows, third. */
public final class MeetingTest {
    private static final String EIGHT = "row a of r 0;row b of r 0;row c of r 0;row d of r 0;row e of r 0;"
        + "row f of r 0;row g of r 0;row h of r 0;";

    public static void main(String[] args) {
        withoutCloth();
        meets();
        best();
        bestByRipping();
        bestByNumbers();
        bestThatEndsWithTheFirst();
        fullSides();
        anotherCloth();
        noMeeting();
        far();
        ways();
        sure();
        third();
        Check.end();
    }

    private static void withoutCloth() {
        TwoWeavers x = new TwoWeavers();
        Check.due(x, "meets()", x.meets(), -1, 1);
        Check.due(x, "meeting(0)", x.meeting(0), -1, 1);
        Check.due(x, "woven(0)", x.woven(0), -1, 1);
        Check.due(x, "takes(0, 0)", x.takes(0, 0), -1, 1);
        Check.due(x, "far(0)", x.far(0), -1, 1);
        Check.due(x, "ways()", x.ways(), -1, 1);
        Check.due(x, "sure(0, 0)", x.sure(0, 0), -1, 1);
        Check.due(x, "sureRows(0)", x.sureRows(0), -1, 1);
        Check.due(x, "third()", x.third(), -1, 1);
    }

    private static void meets() {
        TwoWeavers x = Check.told("cloth length 5 slack 1 left 1 right 2 rate 1;colour r left 9 right 9;"
            + "row a of r 1;row b of r 1;next a then a,b;next b then b;left a;right b");
        Check.due(x, "meets(): 3 units", x.meets(), 0, 0);
        x.weave(0, 0);
        Check.due(x, "meets(): 4 units", x.meets(), 0, 0);
        x.weave(0, 0);
        Check.due(x, "meets(): 5 units", x.meets(), 1, 0);
        x.weave(0, 0);
        Check.due(x, "meets(): 6 units", x.meets(), 1, 0);
        x.weave(0, 0);
        Check.due(x, "meets(): 7 units", x.meets(), 0, 0);
        x.rip(0);
        x.rip(1);
        Check.due("units(): 4", x.units(), 4);
        x.weave(0, 0);
        Check.due(x, "meets(): the right has no rows", x.meets(), 0, 0);
        x.weave(1, 0);
        x.rip(0);
        Check.due(x, "meets(): a right of a", x.meets(), 1, 0);
        x.rip(0);
        x.weave(0, 1);
        Check.due(x, "meets(): a not right of b", x.meets(), 0, 0);
    }

    private static void best() {
        TwoWeavers x = Check.told("cloth length 4 slack 1 left 1 right 1 rate 2;colour r left 5 right 4;"
            + "colour g left 2 right 2;row a of r 1;row b of g 1;row s of r 0 seam;next a then b,s;next b then a;"
            + "next s then b;left a;right a");
        int[] due = {0, 2, 0, 0};
        for (int what = 0; what < 4; what++) {
            Check.due(x, "meeting(" + what + ")", x.meeting(what), due[what], 0);
        }
        Check.due(x, "meeting(4)", x.meeting(4), -1, 1);
        Check.due(x, "meeting(-1)", x.meeting(-1), -1, 1);
        Check.due(x, "woven(0)", x.woven(0), 2, 0);
        Check.due(x, "woven(1)", x.woven(1), 1, 0);
        Check.due(x, "woven(2)", x.woven(2), -1, 1);
        Check.due(x, "woven(-1)", x.woven(-1), -1, 1);
        Check.due(x, "takes(1, 1)", x.takes(1, 1), 1, 0);
        Check.due(x, "takes(1, 0)", x.takes(1, 0), 0, 0);
        Check.due(x, "takes(0, 1)", x.takes(0, 1), 0, 0);
        Check.due(x, "takes(2, 0)", x.takes(2, 0), -1, 1);
        Check.due(x, "takes(0, 2)", x.takes(0, 2), -1, 1);
        Check.due(x, "takes(0, -1)", x.takes(0, -1), -1, 1);
        // hands of unlike length: the fewest rows in all come first, then the fewest by the left
        x = Check.told("cloth length 9 slack 0 left 3 right 1 rate 1;colour r left 9 right 9;row a of r 2;next a then a");
        Check.due("meeting(1): two of three, three of one", x.meeting(1), 5);
        Check.due("meeting(3)", x.meeting(3), 2);
        Check.due("takes(0, 0)", x.takes(0, 0), 4);
        Check.due("takes(1, 0)", x.takes(1, 0), 6);
        x = Check.told("cloth length 6 slack 0 left 1 right 1 rate 1;colour r left 9 right 9;row a of r 2;next a then a");
        Check.due("meeting(1)", x.meeting(1), 6);
        Check.due("meeting(3): the right weaves four at most", x.meeting(3), 2);
    }

    private static void bestByRipping() {
        // they are too long: one must be ripped; by the right, as that leaves the left alone
        TwoWeavers x = Check.told("cloth length 4 slack 0 left 1 right 1 rate 1;colour r left 9 right 9;"
            + "row a of r 1;next a then a;left a,a,a;right a,a");
        Check.due("meeting(0)", x.meeting(0), 1);
        Check.due("meeting(1)", x.meeting(1), 0);
        Check.due("meeting(2)", x.meeting(2), 0);
        Check.due("meeting(3)", x.meeting(3), 0);
        Check.due(x, "woven(0)", x.woven(0), -1, 1);
        Check.due(x, "takes(1, 0)", x.takes(1, 0), 0, 0);
        Check.due("ways()", x.ways(), 0);
        // of two to be ripped fewest woven come ahead of fewest ripped by the left
        x = Check.told("cloth length 6 slack 0 left 2 right 1 rate 1;colour r left 9 right 9;"
            + "row a of r 1;next a then a;left a,a,a;right a,a");
        Check.due("meeting(0): eight units, one row of two", x.meeting(0), 1);
        Check.due("meeting(1)", x.meeting(1), 0);
        Check.due("meeting(2)", x.meeting(2), 1);
        // a seam row must be ripped ahead of weaving on; its weaver may weave any behind what then stands
        x = Check.told("cloth length 5 slack 0 left 1 right 1 rate 1;colour r left 9 right 9;"
            + "row a of r 1;row s of r 1 seam;next a then a,s;next s then a;left a,s;right s");
        Check.due("meeting(0)", x.meeting(0), 1);
        Check.due("meeting(1)", x.meeting(1), 3);
        Check.due("meeting(2)", x.meeting(2), 0);
        Check.due("meeting(3)", x.meeting(3), 0);
        Check.due("woven(0)", x.woven(0), 0);
        Check.due("woven(1)", x.woven(1), 0);
        Check.due("woven(2)", x.woven(2), 0);
        // what is ripped does not come back into store
        x = Check.told("cloth length 4 slack 0 left 1 right 1 rate 1;colour r left 1 right 1;"
            + "row a of r 1;row b of r 0;next a then a;next b then b;left a;right b");
        Check.due("meeting(0)", x.meeting(0), 1);
        Check.due("meeting(2)", x.meeting(2), 1);
        Check.due("meeting(1)", x.meeting(1), 3);
        Check.due("meeting(3)", x.meeting(3), 1);
    }

    private static void bestByNumbers() {
        // from left to right: the left's rows first, then the right's, whose innermost was woven last
        TwoWeavers x = Check.told("cloth length 6 slack 0 left 1 right 1 rate 1;colour r left 3 right 9;"
            + "row a of r 1;row b of r 1 seam;row c of r 0;next a then c,b;next b then c;next c then c,b;left c,c;right c");
        Check.due("meeting(1)", x.meeting(1), 3);
        Check.due("meeting(3)", x.meeting(3), 0);
        Check.due("woven(0): b may stand innermost, yet a not", x.woven(0), 1);
        Check.due("woven(1)", x.woven(1), 2);
        Check.due("woven(2)", x.woven(2), 2);
        x = Check.told("cloth length 4 slack 0 left 1 right 1 rate 1;colour r left 2 right 0;colour g left 1 right 0;"
            + "row a of r 2;row b of r 1;row c of g 1;row d of g 0 seam;"
            + "next a then b,c;next b then a,b,c;next c then a,d;right d");
        Check.due("meeting(1)", x.meeting(1), 3);
        Check.due("meeting(3): the right is behind its seam row", x.meeting(3), 3);
        Check.due("woven(0): not a, as c behind b behind a needs more red", x.woven(0), 1);
        Check.due("woven(1)", x.woven(1), 1);
        Check.due("woven(2)", x.woven(2), 2);
        Check.due("takes(0, 0)", x.takes(0, 0), 2);
        Check.due("takes(0, 1)", x.takes(0, 1), 1);
        Check.due("takes(1, 0)", x.takes(1, 0), 0);
    }

    private static void wovenAre(TwoWeavers x, int... due) {
        Check.due("meeting(1)", x.meeting(1), due.length);
        for (int i = 0; i < due.length; i++) {
            Check.due(x, "woven(" + i + ")", x.woven(i), due[i], 0);
        }
    }

    private static void bestThatEndsWithTheFirst() {
        String start = "cloth length 4 slack 0 left 1 right 1 rate 1;colour r left 9 right 9;row a of r 1";
        wovenAre(Check.told(start + " seam;row b of r 1;row t of r 1 seam;next b then b,a;next a then t;right t"), 1, 1, 0);
        wovenAre(Check.told(start + ";row s of r 1 seam;row c of r 1;row t of r 1 seam;next s then a;next c then a,c,s;"
            + "next a then t;right t"), 2, 2, 0);
    }

    private static void fullSides() {
        String start = "cloth length 48 slack 0 left 1 right 1 rate 5;colour r left 0 right 0;row a of r 0;next a then a";
        TwoWeavers x = Check.told(start);
        Check.due("meeting(1): 24 by each", x.meeting(1), 48);
        Check.due("meeting(3)", x.meeting(3), 24);
        Check.due("woven(47)", x.woven(47), 0);
        Check.due("ways()", x.ways(), 1);
        Check.due("sureRows(0)", x.sureRows(0), 1);
        Check.due("sureRows(1)", x.sureRows(1), 1);
        Check.due("weeks(9)", x.weeks(9), 48);
        Check.due("meets()", x.meets(), 1);
        Check.due("may(0)", x.may(0), 0);
        Check.due("ways()", x.ways(), 1);
        x = Check.told(start.replace("48", "49"));
        Check.due("meeting(1): none has 25 rows", x.meeting(1), -2);
        Check.due("ways()", x.ways(), 0);
        Check.due("sureRows(0)", x.sureRows(0), 0);
        x = Check.told(start.replace("48", "25"));
        Check.due("meeting(3): the right can weave 24", x.meeting(3), 1);
        Check.due("ways()", x.ways(), 24);
    }

    private static void anotherCloth() {
        String start = "cloth length 4 slack 0 left 1 right 1 rate 1;colour r left 9 right 9;row a of r 0;next a then a";
        TwoWeavers x = Check.told(start);
        Check.due("meeting(1)", x.meeting(1), 4);
        Check.tell(x, start.replace("length 4", "length 7"));
        Check.due("meeting(1) of another cloth", x.meeting(1), 7);
        x.mark();
        x.weave(0, 0);
        Check.due("meeting(1) behind a row woven", x.meeting(1), 6);
        x.undo();
        Check.due("meeting(1) when it is undone", x.meeting(1), 7);
        x.weave(1, 0);
        x.rip(1);
        Check.due("meeting(1) behind a row ripped", x.meeting(1), 7);
        x.weeks(2);
        Check.due("meeting(1) behind two weeks", x.meeting(1), 4);
        x.back(0);
        Check.due("meeting(1) as by the mark", x.meeting(1), 7);
    }

    private static void noMeeting() {
        TwoWeavers x = Check.told("cloth length 9 slack 0 left 1 right 1 rate 1;colour r left 3 right 3;"
            + "row a of r 1;next a then a;left a");
        for (int what = 0; what < 4; what++) {
            Check.due(x, "meeting(" + what + ")", x.meeting(what), -2, 0);
        }
        Check.due(x, "meeting(4)", x.meeting(4), -1, 1);
        Check.due(x, "woven(0)", x.woven(0), -1, 6);
        Check.due(x, "takes(0, 0)", x.takes(0, 0), -1, 6);
        Check.due(x, "takes(0, 1)", x.takes(0, 1), -1, 1);
        Check.due(x, "woven(-1)", x.woven(-1), -1, 1);
        Check.due(x, "ways()", x.ways(), 0, 0);
        Check.due(x, "weeks(1)", x.weeks(1), 0, 0);
        Check.due(x, "sureRows(0)", x.sureRows(0), 0, 0);
    }

    private static void far() {
        TwoWeavers x = Check.told("cloth length 4 slack 0 left 9 right 9 rate 1;colour r left 7 right 2;"
            + "row a of r 3;row b of r 1 seam;row c of r 2;next a then c;next c then a,b;left a");
        Check.due(x, "far(0): c, then b", x.far(0), 2, 0);
        Check.due(x, "far(1): c, or b", x.far(1), 1, 0);
        Check.due(x, "far(2)", x.far(2), -1, 1);
        Check.due(x, "far(-1)", x.far(-1), -1, 1);
        x.weave(0, 2);
        x.weave(0, 1);
        Check.due(x, "far(0): behind a seam row", x.far(0), 0, 0);
        x = Check.told("cloth length 4 slack 0 left 9 right 9 rate 1;colour r left 0 right 0;" + EIGHT
            + "next a then a;left a,a");
        Check.due("far(0): up to 24 rows", x.far(0), 22);
        Check.due("far(1)", x.far(1), 24);
    }

    private static void ways() {
        StringBuilder all = new StringBuilder("cloth length 60 slack 9 left 3 right 3 rate 1;colour r left 0 right 0;" + EIGHT);
        for (char r = 'a'; r <= 'h'; r++) {
            all.append(r == 'a' ? "" : ";").append("next ").append(r).append(" then a,b,c,d,e,f,g,h");
        }
        TwoWeavers x = Check.told(all.toString());
        Check.due(x, "ways(): told no higher", x.ways(), 1000000000000000000L, 0);
        String small = all.toString().replace("length 60 slack 9", "length 57 slack 0") + ";left a" + ",a".repeat(11);
        x = Check.told(small + ";right a");
        // 19 rows in all: six more, by the left any of them: 7 times 8 to the 6th
        Check.due("ways()", x.ways(), 7L * 262144L);
        x = Check.told(all.toString().replace("length 60 slack 9", "length 60 slack 0").replace("left 3 right 3", "left 4 right 3")
            + ";left a;right a,a,a,a");
        // 44 units more: 4 l + 3 r: (11, 0), (8, 4), (5, 8), (2, 12)
        Check.due("ways()", x.ways(), (1L << 33) + (1L << 36) + (1L << 39) + (1L << 42));
        x = Check.told("cloth length 4 slack 1 left 1 right 1 rate 2;colour r left 5 right 4;colour g left 2 right 2;"
            + "row a of r 1;row b of g 1;row s of r 0 seam;next a then b,s;next b then a;next s then b;left a;right a");
        Check.due("ways()", x.ways(), 6);
        x = Check.told("cloth length 4 slack 0 left 2 right 2 rate 1;colour r left 9 right 9;row a of r 1;next a then a;left a;right a");
        Check.due("ways(): to weave nothing is one", x.ways(), 1);
    }

    private static void sure() {
        // the right may weave a or b; behind b of the right nothing but b can come beside it
        String text = "cloth length 4 slack 0 left 1 right 1 rate 1;colour r left 9 right 9;row a of r 1;row b of r 1;"
            + "row c of r 1;next a then a;next b then b;next c then a,b,c;left c";
        TwoWeavers x = Check.told(text);
        Check.due(x, "sure(0, 0): the right may weave b", x.sure(0, 0), 0, 0);
        Check.due(x, "sure(0, 2)", x.sure(0, 2), 1, 0);
        Check.due(x, "sureRows(0)", x.sureRows(0), 4, 0);
        Check.due(x, "sure(1, 0): the left may weave b", x.sure(1, 0), 0, 0);
        Check.due(x, "sureRows(1): c has just c left of it", x.sureRows(1), 0, 0);
        Check.due(x, "sure(2, 0)", x.sure(2, 0), -1, 1);
        Check.due(x, "sure(0, 3)", x.sure(0, 3), -1, 1);
        Check.due(x, "sure(0, -1)", x.sure(0, -1), -1, 1);
        Check.due(x, "sureRows(2)", x.sureRows(2), -1, 1);
        x.weave(0, 0);
        Check.due(x, "sure(0, 1): it may not come", x.sure(0, 1), -1, 5);
        // the other may none: there must be a meeting as soon as the row is woven
        x = Check.told("cloth length 4 slack 0 left 1 right 1 rate 1;colour r left 9 right 9;row a of r 1;row s of r 1 seam;"
            + "next a then a,s;left a,a;right s");
        Check.due("sureRows(0): a, not s", x.sureRows(0), 1);
        Check.due("rip(0)", x.rip(0), true);
        Check.due("sureRows(0): a, then one more", x.sureRows(0), 1);
        // the other's row makes it too long
        x = Check.told("cloth length 4 slack 0 left 1 right 1 rate 1;colour r left 9 right 9;row a of r 1;next a then a;"
            + "left a,a;right a");
        Check.due("sureRows(0): five, whatever the right weaves", x.sureRows(0), 0);
        x.rip(0);
        Check.due("sureRows(0): four then", x.sureRows(0), 1);
        Check.due("sureRows(1)", x.sureRows(1), 1);
    }

    private static void third() {
        TwoWeavers x = Check.told("cloth length 4 slack 0 left 1 right 1 rate 1;colour r left 2 right 2;row a of r 1;"
            + "row b of r 1;row c of r 3;row s of r 3 seam;next a then b,c,s;next c then b;next s then b;next b then b;left a");
        Check.due(x, "third(): the right has no rows", x.third(), -1, 6);
        x.weave(1, 1);
        Check.due(x, "third(): b, c, s", x.third(), 14, 0);
        x.rip(0);
        Check.due(x, "third(): the left has no rows", x.third(), -1, 6);
        x.weave(0, 1);
        Check.due(x, "third()", x.third(), 2, 0);
    }
}
