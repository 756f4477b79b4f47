/** Promises 6 to 9: kinds of rows, which may come beside which, what may stand for what. */
public final class KindsTest {
    private static final String START = "cloth length 9 slack 2 left 2 right 3 rate 4;colour r left 5 right 4;"
        + "colour g left 2 right 3;row a of r 1;row b of g 2;row c of g 3;row s of r 0 seam;row t of g 1 seam;"
        + "row d of r 0";

    public static void main(String[] args) {
        withoutCloth();
        kinds();
        beside();
        instead();
        Check.end();
    }

    private static void withoutCloth() {
        TwoWeavers x = new TwoWeavers();
        Check.due(x, "row(0, 0)", x.row(0, 0), -1, 1);
        Check.due(x, "next(0, 0)", x.next(0, 0), -1, 1);
        Check.due(x, "instead(0, 1)", x.instead(0, 1), -1, 1);
        Check.due(x, "spare(0)", x.spare(0), -1, 1);
    }

    private static void kinds() {
        TwoWeavers x = Check.told(START + ";answers b a;answers t t");
        int[][] due = {{0, 1, 0, 1}, {1, 2, 0, 0}, {1, 3, 0, 2}, {0, 0, 1, 3}, {1, 1, 1, 4}, {0, 0, 0, 5}};
        for (int r = 0; r < due.length; r++) {
            for (int what = 0; what < 4; what++) {
                Check.due(x, "row(" + r + ", " + what + ")", x.row(r, what), due[r][what], 0);
            }
        }
        Check.due(x, "row(6, 0)", x.row(6, 0), -1, 1);
        Check.due(x, "row(-1, 0)", x.row(-1, 0), -1, 1);
        Check.due(x, "row(0, 4)", x.row(0, 4), -1, 1);
        Check.due(x, "row(0, -1)", x.row(0, -1), -1, 1);
        Check.due(x, "row(max, min)", x.row(Integer.MAX_VALUE, Integer.MIN_VALUE), -1, 1);
    }

    private static void beside() {
        TwoWeavers x = Check.told(START + ";next a then b,a;next s then t");
        Check.due(x, "next(0, 0)", x.next(0, 0), 1, 0);
        Check.due(x, "next(0, 1)", x.next(0, 1), 1, 0);
        Check.due(x, "next(1, 0)", x.next(1, 0), 0, 0);
        Check.due(x, "next(3, 4), a seam row has one right of it too", x.next(3, 4), 1, 0);
        Check.due(x, "next(4, 3)", x.next(4, 3), 0, 0);
        Check.due(x, "next(6, 0)", x.next(6, 0), -1, 1);
        Check.due(x, "next(0, 6)", x.next(0, 6), -1, 1);
        Check.due(x, "next(-1, 0)", x.next(-1, 0), -1, 1);
        Check.due(x, "next(0, -1)", x.next(0, -1), -1, 1);
    }

    private static void instead() {
        // d comes right of a; b comes right of a and c, and has a and d right of it; c has d right of it
        TwoWeavers x = Check.told(START + ";next a then d,b;next c then b,d;next b then a,d;next d then a");
        Check.due(x, "instead(1, 5): b for d", x.instead(1, 5), 0, 0);
        x = Check.told(START + ";next a then d,b;next c then b;next b then a,d;next d then a");
        Check.due(x, "instead(1, 5): b not right of b, as d is", x.instead(1, 5), 0, 0);
        x = Check.told(START + ";next a then d,b;next c then b;next b then a;next d then a");
        Check.due(x, "instead(1, 5): b for d", x.instead(1, 5), 1, 0);
        Check.due(x, "instead(5, 1): d not right of c, as b is", x.instead(5, 1), 0, 0);
        Check.due(x, "spare(5): b, of another colour", x.spare(5), 1, 0);
        Check.due(x, "spare(1): d may not", x.spare(1), -2, 0);
        Check.due(x, "spare(2): a has b right of it, too", x.spare(2), 0, 0);
        Check.due(x, "instead(3, 4): seam rows", x.instead(3, 4), 1, 0);
        Check.due(x, "spare(3)", x.spare(3), 4, 0);
        Check.due(x, "spare(4)", x.spare(4), 3, 0);
        Check.due(x, "instead(5, 3): none for a seam row", x.instead(5, 3), 0, 0);
        Check.due(x, "instead(3, 5)", x.instead(3, 5), 0, 0);
        Check.due(x, "instead(1, 1)", x.instead(1, 1), -1, 1);
        Check.due(x, "instead(1, 6)", x.instead(1, 6), -1, 1);
        Check.due(x, "instead(-1, 1)", x.instead(-1, 1), -1, 1);
        Check.due(x, "spare(6)", x.spare(6), -1, 1);
        Check.due(x, "spare(-1)", x.spare(-1), -1, 1);
        x = Check.told("cloth length 4 slack 0 left 1 right 1 rate 1;colour r left 1 right 1;colour g left 1 right 1;"
            + "row a of r 1;row b of r 1;row c of g 1;row d of g 0;next a then a");
        Check.due(x, "spare(1): a is of the same colour, c the first of another", x.spare(1), 2, 0);
        Check.due(x, "instead(0, 1)", x.instead(0, 1), 1, 0);
        Check.due(x, "instead(1, 0): not right of a", x.instead(1, 0), 0, 0);
        Check.due(x, "spare(0)", x.spare(0), -2, 0);
        Check.due(x, "spare(2)", x.spare(2), 0, 0);
    }
}
