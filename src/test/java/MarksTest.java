/** Promises 1 and 36 to 40: a new object, marks, rows that none can weave, sizes, trouble. */
public final class MarksTest {
    private static final String START = "cloth length 8 slack 3 left 2 right 4 rate 5;colour r left 5 right 4;"
        + "colour g left 2 right 3;row a of r 1;row b of g 2;row c of r 0;next a then a,b;next c then a,c;next b then c;"
        + "motif m plain a;note left 0 before right 0;note right 0 before left 1";

    public static void main(String[] args) {
        newObject();
        marks();
        led();
        sizes();
        troubles();
        Check.due("NONE", TwoWeavers.NONE, -1);
        Check.end();
    }

    private static void newObject() {
        TwoWeavers x = new TwoWeavers();
        Check.due("trouble()", x.trouble(), 0);
        Check.due("fault()", x.fault(), 0);
        Check.due("where()", x.where(), -1);
        for (int what = 0; what <= 12; what++) {
            Check.due("size(" + what + ")", x.size(what), 0);
        }
        Check.due("led(0)", Check.led(x, 0), -9);
        Check.due(x, "mark()", x.mark(), -1, 1);
        Check.due(x, "back(0)", x.back(0), false, 1);
    }

    private static void marks() {
        TwoWeavers x = Check.told(START + ";left a;right b");
        Check.due(x, "mark()", x.mark(), 0, 0);
        x.rip(1);
        x.weave(0, 1);
        x.weeks(2);
        int rows = x.rows(0);
        Check.due(x, "mark()", x.mark(), 1, 0);
        Check.due("size(10): a mark is no act", x.size(10), 3);
        x.rip(0);
        Check.due(x, "mark()", x.mark(), 2, 0);
        Check.due(x, "mark(): there is no room", x.mark(), -1, 3);
        Check.due("size(11)", x.size(11), 3);
        Check.due(x, "back(0)", x.back(0), true, 0);
        Check.due("rows(0)", x.rows(0), 1);
        Check.due("at(1, 0)", x.at(1, 0), 1);
        Check.due("colour(1, 1, 2)", x.colour(1, 1, 2), 0);
        Check.due("colour(1, 1, 0)", x.colour(1, 1, 0), 1);
        Check.due("size(9)", x.size(9), 0);
        Check.due("size(10)", x.size(10), 0);
        Check.due("size(11)", x.size(11), 3);
        Check.due(x, "undo()", x.undo(), false, 6);
        Check.due(x, "back(1)", x.back(1), true, 0);
        Check.due("rows(0)", x.rows(0), rows);
        Check.due("colour(1, 1, 2)", x.colour(1, 1, 2), 2);
        Check.due("size(9)", x.size(9), 2);
        Check.due(x, "back(2)", x.back(2), true, 0);
        Check.due("rows(0)", x.rows(0), rows - 1);
        Check.due(x, "back(3)", x.back(3), false, 1);
        Check.due(x, "back(-1)", x.back(-1), false, 1);
        x.weave(0, 0);
        x.rip(0);
        Check.due("a mark keeps what it kept", x.back(0), true);
        Check.due("rows(0)", x.rows(0), 1);
        Check.due("meeting(0)", x.meeting(0), 0);
    }

    private static void led() {
        TwoWeavers x = Check.told(START + ";left b;right b");
        Check.due("may(0): c", x.may(0), 4);
        Check.due("may(1): a", x.may(1), 1);
        Check.due("led(0): b", Check.led(x, 0), 1);
        Check.due("led(1)", Check.led(x, 1), -9);
        Check.due("led(-1)", Check.led(x, -1), -9);
        Check.due("led(max)", Check.led(x, Integer.MAX_VALUE), -9);
        x.units();
        x.row(9, 9);
        Check.led(x, 0);
        Check.led(x, 5);
        Check.due("trouble(): led leaves it", x.trouble(), 1);
        x = Check.told("cloth length 4 slack 0 left 1 right 1 rate 1;colour r left 0 right 0;row a of r 1;row b of r 0;row c of r 2");
        Check.due("led(0)", Check.led(x, 0), 0);
        Check.due("led(1)", Check.led(x, 1), 2);
        Check.due("led(2)", Check.led(x, 2), -9);
    }

    private static void sizes() {
        TwoWeavers x = Check.told(START);
        Check.feed(x, "left");
        x.weave(0, 0);
        x.weeks(3);
        x.mark();
        int[] due = {3, 2, 1, 2, 8, 3, 2, 4, 5, 3, 2, 1, 20};
        x.row(9, 9);
        for (int what = 0; what < due.length; what++) {
            Check.due("size(" + what + ")", x.size(what), due[what]);
        }
        Check.due("size(13)", x.size(13), -1);
        Check.due("size(-1)", x.size(-1), -1);
        Check.due("trouble(): size leaves it", x.trouble(), 1);
    }

    private static void troubles() {
        TwoWeavers x = Check.told(START);
        x.rows(5);
        Check.due("trouble()", x.trouble(), 1);
        x.trouble();
        x.fault();
        x.where();
        x.feed(0, 0, 0, 0, 0);
        Check.due("trouble() stays through calls that may not be refused", x.trouble(), 1);
        x.spare(0);
        Check.due("trouble()", x.trouble(), 0);
        x.rip(0);
        Check.due("trouble()", x.trouble(), 6);
        x.orders();
        Check.due("trouble()", x.trouble(), 0);
        x.rip(0);
        x.ways();
        Check.due("trouble()", x.trouble(), 0);
        x.weeks(0);
        Check.due("trouble()", x.trouble(), 2);
        x.weave(0, 0);
        Check.due("trouble()", x.trouble(), 0);
        x.rip(1);
        x.weave(1, 0);
        x.ahead(0, 0);
        Check.due("trouble()", x.trouble(), 0);
    }
}
