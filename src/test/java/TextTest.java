/** Promises 2 to 5: the tape, the text of a cloth, its faults and their places. */
public final class TextTest {
    private static final String CLOTH = "cloth length 4 slack 0 left 1 right 1 rate 1";
    private static final String START = CLOTH + ";colour r left 9 right 2;row a of r 1;row b of r 3";

    public static void main(String[] args) {
        tape();
        texts();
        form();
        names();
        again();
        bounds();
        many();
        lacks();
        misplaced();
        firstFromTheLeft();
        whatStays();
        Check.end();
    }

    private static void tape() {
        TwoWeavers x = new TwoWeavers();
        for (int i = 1; i <= 45; i++) {
            Check.due("feed " + i, x.feed(0, -1, 1, 2, 3), 20 * i);
        }
        Check.due("feed beyond 900", x.feed(0, 0, 0, 0, 0), -1);
        Check.due("size(12)", x.size(12), 900);
        Check.due("feed tells no trouble", x.trouble(), 0);
        Check.due(x, "cloth(901)", x.cloth(901), -1, 2);
        Check.due("size(12), the tape stays", x.size(12), 900);
        Check.due(x, "cloth(-1)", x.cloth(-1), -1, 2);
        Check.due("fault() of no text", x.fault(), 0);
        Check.due("where()", x.where(), -1);
        Check.due(x, "cloth(900)", x.cloth(900), -1, 4);
        Check.due("size(12), the tape is empty", x.size(12), 0);
        Check.due("fault()", x.fault(), 1);
        Check.due("where()", x.where(), 0);
        Check.due(x, "cloth(1)", x.cloth(1), -1, 2);
        Check.due("fault() stays when refused by 2", x.fault(), 1);
        Check.due("where()", x.where(), -1);
        Check.due("cloth(0)", x.cloth(0), -1);
        x.feed(0, 0, 0, 0, 0);
        x.size(0);
        Check.due("where(), feed and size may not be refused", x.where(), 0);
        x.units();
        Check.due("where(), units may", x.where(), -1);
        Check.due("fault()", x.fault(), 1);
    }

    private static void texts() {
        Check.fine(START, 2);
        Check.fine("  " + START.replace(" ", "   ") + "   ", 2);
        Check.fine("cloth length4slack0left1right1rate1;colour r left 9right 2;row a of r1seam", 1);
        Check.fine("colour r left 0 right 0;row a of r 0 seam;" + CLOTH, 1);
        Check.fine("cloth length 004 slack 9 left 9 right 9 rate 5;colour of left 1 right 1;row length of of 3", 1);
        Check.fine(START + ";row plain of r 0;row growing of r 1;motif rate growing growing,plain,plain,growing", 4);
        Check.fine(START + ";left a;right a;next a then a,b;next b then b,a;answers a a;answers b b", 2);
        Check.fine(START + ";note left 0 before right 23;note right 23 before left 0", 2);
        Check.fine(CLOTH + ";colour abcdefgh left 1 right 1;row abcdefg of abcdefgh 1", 1);
    }

    private static void form() {
        Check.faulty("", 1, 0);
        Check.faulty("   ", 1, 3);
        Check.faultAtBar("|length", 1);
        Check.faultAtBar("|;", 1);
        Check.faultAtBar("|4", 1);
        Check.faultAtBar(START + ";|", 1);
        Check.faultAtBar(START + ";|;", 1);
        Check.faultAtBar(START + "|,", 1);
        Check.faultAtBar(START + "|a", 1);
        Check.faultAtBar(START + " seam |seam", 1);
        Check.faultAtBar(START + "|\t", 1);
        Check.faultAtBar(START + "|\n", 1);
        Check.faultAtBar(START + "|A", 1);
        Check.faultAtBar(START + "|\0", 1);
        Check.faultAtBar(START + "|" + (char) 200, 1);
        Check.faultAtBar("cloth |lengths 4", 1);
        Check.faultAtBar("cloth length |1234", 1);
        Check.faultAtBar("cloth length |slack", 1);
        Check.faultAtBar("cloth length 4 |4", 1);
        Check.faultAtBar("cloth length 4 slack 0 |right 1", 1);
        Check.faultAtBar("colour |left left 1 right 1", 1);
        Check.faultAtBar("colour |abcdefghi left 1 right 1", 1);
        Check.faultAtBar("colour |7", 1);
        Check.faultAtBar("row a |off", 1);
        Check.faultAtBar("row |seam", 1);
        for (String word : "cloth colour row next answers left right motif note seam then before".split(" ")) {
            Check.faultAtBar("colour |" + word, 1);
            Check.faultAtBar(START + ";next |" + word, 1);
        }
        Check.faultAtBar(START + ";next a |a", 1);
        Check.faultAtBar(START + ";next a then |;", 1);
        Check.faultAtBar(START + ";next a then a, |", 1);
        Check.faultAtBar(START + ";answers a|,b", 1);
        Check.faultAtBar(START + ";answers a|", 1);
        Check.faultAtBar(START + ";answers a b |b", 1);
        Check.faultAtBar(START + ";left |", 1);
        Check.faultAtBar(START + ";left a |a", 1);
        Check.faultAtBar(START + ";right |right", 1);
        Check.faultAtBar(START + ";motif m |odd a", 1);
        Check.faultAtBar(START + ";motif m |seam a", 1);
        Check.faultAtBar(START + ";motif m plain |1", 1);
        Check.faultAtBar(START + ";note |before", 1);
        Check.faultAtBar(START + ";note left 1 |right", 1);
        Check.faultAtBar(START + ";note left 1 before |left", 1);
        Check.faultAtBar(START + ";note right 1 before |right", 1);
        Check.faultAtBar(START + ";note right 1 before left |", 1);
        Check.faultAtBar(START + ";note right |1000", 1);
    }

    private static void names() {
        Check.faultAtBar("row a of |x", 2);
        Check.faultAtBar("row a of |a", 2);
        Check.faultAtBar(START + ";next |r", 2);
        Check.faultAtBar(START + ";next |c", 2);
        Check.faultAtBar(START + ";next a then b,|r", 2);
        Check.faultAtBar(START + ";answers |c", 2);
        Check.faultAtBar(START + ";answers a |c", 2);
        Check.faultAtBar(START + ";left |c", 2);
        Check.faultAtBar(START + ";motif m plain |m", 2);
        Check.faultAtBar(START + ";motif m plain a;right |m", 2);
        Check.faultAtBar(START + ";motif m plain a,a,a,a,|c", 2);
        Check.faultAtBar(START + ";row c of |a", 2);
    }

    private static void again() {
        Check.faultAtBar(START + ";|cloth", 3);
        Check.faultAtBar("colour r left 1 right 1;colour |r", 3);
        Check.faultAtBar(START + ";row |r", 3);
        Check.faultAtBar(START + ";row |a", 3);
        Check.faultAtBar(START + ";motif |a", 3);
        Check.faultAtBar(START + ";motif m plain a;motif |m", 3);
        Check.faultAtBar(START + ";motif m plain a;colour |m", 3);
        Check.faultAtBar(START + ";next a then b,a,|b", 3);
        Check.faultAtBar(START + ";row c of r 1;row d of r 1;row e of r 1;row f of r 1;row g of r 1;row h of r 1;"
            + "next a then a,b,c,d,e,f,g,h,|a", 3);
        Check.faultAtBar(START + ";next a then b;next b then a;next |a", 3);
        Check.faultAtBar(START + ";answers a b;answers |b", 3);
        Check.faultAtBar(START + ";answers a a;answers b |a", 3);
        Check.faultAtBar(START + ";left a;right a;|left", 3);
        Check.faultAtBar(START + ";right a;|right", 3);
    }

    private static void bounds() {
        Check.faultAtBar("cloth length |3", 4);
        Check.faultAtBar("cloth length |61", 4);
        Check.fine(START.replace("length 4", "length 60"), 2);
        Check.faultAtBar("cloth length 4 slack |10", 4);
        Check.faultAtBar("cloth length 4 slack 0 left |0", 4);
        Check.faultAtBar("cloth length 4 slack 0 left |10", 4);
        Check.faultAtBar("cloth length 4 slack 0 left 1 right |0", 4);
        Check.faultAtBar("cloth length 4 slack 0 left 1 right |10", 4);
        Check.faultAtBar("cloth length 4 slack 0 left 1 right 1 rate |0", 4);
        Check.faultAtBar("cloth length 4 slack 0 left 1 right 1 rate |6", 4);
        Check.faultAtBar("colour r left |10", 4);
        Check.faultAtBar("colour r left 0 right |999", 4);
        Check.faultAtBar(START + ";row c of r |4", 4);
        Check.faultAtBar(START + ";note left |24", 4);
        Check.faultAtBar(START + ";note left 23 before right |24", 4);
        Check.faultAtBar(START + ";note right |24", 4);
    }

    private static void many() {
        Check.faultAtBar(START + ";colour s left 1 right 1;|colour", 5);
        String eight = START + ";row c of r 1;row d of r 1;row e of r 1;row f of r 1;row g of r 1;row h of r 1";
        Check.fine(eight, 8);
        Check.faultAtBar(eight + ";|row", 5);
        String motifs = START + ";motif m plain a,a,a,a;motif n plain a;motif o plain a;motif p plain a";
        Check.fine(motifs, 2);
        Check.faultAtBar(motifs + ";|motif", 5);
        Check.faultAtBar(START + ";motif m plain a,a,a,a,|a", 5);
        String notes = START + ";note left 1 before right 1".repeat(6);
        Check.fine(notes, 2);
        Check.faultAtBar(notes + ";|note", 5);
        String free = START + ";row c of r 0;next c then c";
        Check.fine(free + ";left c" + ",c".repeat(11) + ";right c" + ",c".repeat(11), 3);
        Check.faultAtBar(free + ";left c" + ",c".repeat(11) + ",|c", 5);
        Check.faultAtBar(free + ";right c" + ",c".repeat(11) + ",|c", 5);
        Check.faultAtBar(free + ";left c" + ",c".repeat(11) + ",|a", 5);
        Check.faultAtBar(free + ";left c" + ",c".repeat(11) + ",|x", 2);
    }

    private static void lacks() {
        Check.faultAtBar("colour r left 1 right 1;row a of r 1|", 6);
        Check.faultAtBar(CLOTH + "|", 6);
        Check.faultAtBar(CLOTH + ";colour r left 1 right 1  |", 6);
        Check.faultAtBar("colour r left 1 right 1 ;|", 1);
    }

    private static void misplaced() {
        Check.faultAtBar(START + ";left a,|a", 7);
        Check.faultAtBar(START + ";left a,|a;next a then a", 7);
        Check.faultAtBar(START + ";next a then b;left a,b,|b", 7);
        Check.faultAtBar(START + ";next a then b;right a;left b,|a", 7);
        Check.faultAtBar(START + ";next a then b;right a,|b", 7);
        Check.faultAtBar(START + ";next a then b;right |b,a", 7);
        Check.fine(START.replace("right 2", "right 9") + ";next a then b;right b,a", 2);
        Check.fine(START + ";next a then a;right a,a", 2);
        Check.faultAtBar(START + ";next a then a;right a,a,|a", 7);
        Check.faultAtBar(START + ";row s of r 0 seam;next s then s,a;left s,|a", 7);
        Check.faultAtBar(START + ";row s of r 0 seam;next s then s,a;right s,|s", 7);
    }

    private static void firstFromTheLeft() {
        Check.faultAtBar("row a of |x 9;A", 2);
        Check.faultAtBar("cloth length |3 slack 99", 4);
        Check.faultAtBar(START + ";colour |a left 10", 3);
        Check.faultAtBar(START + ";colour s left 1 right 1;|colour r left 10", 5);
        Check.faultAtBar(START + ";left a,|a;left", 7);
    }

    private static void whatStays() {
        TwoWeavers x = Check.told(START + ";next a then a;left a;right a");
        x.weave(0, 0);
        x.mark();
        x.rip(0);
        Check.due(x, "cloth with a fault", Check.tell(x, "cloth"), -1, 4);
        Check.due("rows(0), the cloth stays", x.rows(0), 1);
        Check.due("size(10)", x.size(10), 2);
        Check.due("size(11)", x.size(11), 1);
        Check.due("colour(0, 0, 2)", x.colour(0, 0, 2), 1);
        Check.due("next(0, 0)", x.next(0, 0), 1);
        x.weeks(1);
        Check.due("cloth anew", Check.tell(x, CLOTH + ";colour q left 3 right 3;row z of q 2 seam"), 1);
        Check.due("rows(0)", x.rows(0), 0);
        Check.due("colour(0, 0, 0)", x.colour(0, 0, 0), 3);
        Check.due("colour(0, 0, 2)", x.colour(0, 0, 2), 0);
        Check.due("size(9)", x.size(9), 0);
        Check.due("size(10)", x.size(10), 0);
        Check.due("size(11)", x.size(11), 0);
        Check.due(x, "undo()", x.undo(), false, 6);
        Check.due(x, "back(0)", x.back(0), false, 1);
        Check.due("next(0, 0)", x.next(0, 0), 0);
        Check.due("row(0, 2)", x.row(0, 2), 1);
        Check.feed(x, START + ";left c");
        Check.due("cloth of the first bytes", x.cloth(START.length()), 2);
        Check.due("row(0, 2), no seam is left over", x.row(0, 2), 0);
        Check.due("size(12)", x.size(12), 0);
        Check.feed(x, START + "33");
        Check.due("cloth that ends amid digits", x.cloth(START.length()), 2);
        Check.due("row(1, 1)", x.row(1, 1), 3);
        Check.feed(x, START + " seams");
        Check.due("cloth that ends amid letters", x.cloth(START.length() + 5), 2);
        Check.due("row(1, 2)", x.row(1, 2), 1);
    }
}
