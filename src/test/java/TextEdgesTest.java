/** Terms I and promises 2 to 5: each bound of the text of a cloth, at it and just beyond it; each fault and its place. */
public final class TextEdgesTest {
    private static final String CLOTH = "cloth length 4 slack 0 left 1 right 1 rate 1";
    private static final String COLOUR = ";colour r left 9 right 9";
    private static final String ONE = CLOTH + COLOUR + ";row a of r 0";
    private static final String THREE = ONE + ";row b of r 0;row c of r 0 seam";

    public static void main(String[] args) {
        tapeHas900Bytes();
        bytesComeHighestFirst();
        blanksPartTokens();
        wordsHaveOneToEightLetters();
        wholesHaveOneToThreeDigits();
        signsAreSingle();
        linesArePartedBySemicolons();
        linesAreWhole();
        clothBounds();
        colourBounds();
        rowBounds();
        nextRowsAreUnlike();
        answersOnce();
        upToTwelveRowsAhead();
        motifBounds();
        noteBounds();
        namesAreNoWordsOfLines();
        namesDifferByEveryLetterAndItsPlace();
        namesAreToldOnceAheadOfUse();
        Check.end();
    }

    private static String blanks(int n) {
        return " ".repeat(n);
    }

    // ---- the tape

    private static void tapeHas900Bytes() {
        Check.about("THE TAPE has 900 bytes");
        Run run = new Run();
        for (int i = 1; i <= 45; i++) {
            run.due("feed(538976288, 538976288, 538976288, 538976288, 538976288)", 20 * i);
        }
        run.due("size(12)", 900).due("feed(1, 2, 3, 4, 5)", -1).due("size(12)", 900);
        run.due("feed(max, min, max, min, max)", -1).due("size(12)", 900).trouble(0);
        run.refused(2, "cloth(901)", "cloth(-1)", "cloth(max)", "cloth(min)").due("fault()", 0);
        run.faulty(900, 1, 900).end();

        String full = ONE + blanks(900 - ONE.length() - 5) + " seam";
        new Run().told(full, 1).due("row(0, 2)", 1).due("size(12)", 0).end();
        String spoilt = ONE + blanks(899 - ONE.length()) + "|?";
        Check.faultAtBar(spoilt, 1);

        Check.about("feed beyond 900: none comes");
        run = new Run().fed(full).due("feed(0, 0, 0, 0, 0)", -1).due("cloth(900)", 1).due("row(0, 2)", 1);
        run.due("feed(0, 0, 0, 0, 0)", 20).end();

        Check.about("cloth: the first n bytes of THE TAPE, it is empty then");
        new Run().refused(2, "cloth(1)", "cloth(-1)").faulty(0, 1, 0).end();
        int fed = (ONE.length() + 19) / 20 * 20;
        run = new Run().fed(ONE).refused(2, "cloth(" + (fed + 1) + ")", "cloth(-1)").due("fault()", 0).due("where()", -1);
        run.due("size(12)", fed).due("cloth(" + ONE.length() + ")", 1).due("size(12)", 0);
        run.refused(2, "cloth(1)").end();
        new Run().fed(ONE + " seam").due("cloth(" + (ONE.length() + 1) + ")", 1).due("row(0, 2)", 0).end();
        new Run().fed(ONE + "99").due("cloth(" + ONE.length() + ")", 1).due("row(0, 1)", 0).end();
        new Run().fed(ONE).due("cloth(" + fed + ")", 1).end();
        new Run().fed(ONE).faulty(ONE.length() - 1, 1, ONE.length() - 1).end();
    }

    private static void bytesComeHighestFirst() {
        Check.about("feed: of each number the highest first");
        // "colour a left 1 right 1"
        Run run = new Run().due("feed(1668246639, 1970413665, 543974758, 1948266784, 1919510376)", 20);
        run.due("feed(1948266784, 538976288, 538976288, 538976288, 538976288)", 40);
        run.faulty(23, 6, 23).end();
        for (int b : new int[] {0, 31, 33, 127, 128, 160, 255}) {
            for (int at = 0; at < 4; at++) {
                int four = 0x20202020 & ~(255 << 8 * at) | b << 8 * at;
                run = new Run().due("feed(538976288, " + four + ", 538976288, 538976288, 538976288)", 20);
                run.faulty(20, 1, 7 - at).end();
            }
        }
    }

    // ---- tokens

    private static void blanksPartTokens() {
        Check.about("blanks, 32, part TOKENS and mean nothing else");
        Check.fine(blanks(3) + THREE.replace(" ", blanks(4)).replace(";", " ; ") + blanks(3), 3);
        Check.fine("cloth length4slack0left1right1rate1;colour r left9right9;row a of r1seam;next a then a", 1);
        Check.faultAtBar("|clo th", 1);
        Check.faultAtBar("cloth length 4 |0 slack", 1);
        Check.faultAtBar("cloth |lengthslack 4", 1);
        for (char sign : new char[] {0, 1, 9, 10, 13, 31, 33, 95, 127, 128, 160, 255}) {
            Check.faultAtBar("cloth |" + sign + " length", 1);
            Check.faultAtBar("cloth|" + sign + "length", 1);
        }
    }

    private static void wordsHaveOneToEightLetters() {
        Check.about("WORDS of 1 to 8 small letters that stand together");
        String word = "abcdefgh";
        for (int n = 1; n <= 8; n++) {
            String name = word.substring(0, n);
            Check.fine(CLOTH + ";colour " + name + " left 1 right 1;row r of " + name + " 0", 1);
            Check.fine(ONE.replace("row a", "row " + name + (n < 8 ? "z" : "")), 1);
        }
        Check.faultAtBar("colour |abcdefghi left", 1);
        Check.faultAtBar("colour |" + "z".repeat(300), 1);
        Check.faultAtBar("row |abcdefghi", 1);
        Check.faultAtBar("row a of |abcdefghi", 1);
        Check.faultAtBar(ONE + ";motif |abcdefghi", 1);
        Check.faultAtBar(ONE + ";motif abcdefgh |plainplain", 1);
        Check.faultAtBar("|clothcloth", 1);
        Check.fine(CLOTH + ";colour azazazaz left 1 right 1;colour azazazay left 1 right 1;row zzzzzzzz of azazazay 1;"
            + "row zzzzzzz of azazazaz 1", 2);
        Check.fine(ONE + ";row aa of r 0;row z of r 0;row zz of r 0;row aaaaaaaa of r 0;row aaaaaaa of r 0", 6);
        for (char letter = 'a'; letter <= 'z'; letter++) {
            StringBuilder all = new StringBuilder(CLOTH + ";colour colours left 9 right 9");
            for (int n = 1; n <= 8; n++) {
                all.append(";row ").append(String.valueOf(letter).repeat(n)).append(" of colours 0");
            }
            Check.fine(all.toString(), 8);
        }

        Check.about("WORDS of LINES: each letter counts");
        String[] texts = {"|cloth", "cloth |length", "cloth length 4 |slack", "cloth length 4 slack 0 |left", "cloth length 4 slack 0 left 1 |right",
            "cloth length 4 slack 0 left 1 right 1 |rate", "|colour", "colour r |left", "colour r left 1 |right", "|row", "row a |of",
            ONE + " |seam", "|next", ONE + ";next a |then", "|answers", "|left", "|right", "|motif", "motif m |plain", "motif m |mirrored",
            "motif m |turning", "motif m |growing", "|note", "note |left", "note |right", "note left 1 |before", "note left 1 before |right"};
        for (String text : texts) {
            int from = text.indexOf('|') + 1;
            for (int i = from; i < text.length(); i++) {
                char other = text.charAt(i) == 'z' ? 'a' : (char) (text.charAt(i) + 1);
                Check.faultAtBar(text.substring(0, i) + other + text.substring(i + 1), 1);
                Check.faultAtBar(text.substring(0, i) + text.substring(i + 1) + (i == from ? "" : " "), 1);
            }
            Check.faultAtBar(text + (text.length() - from < 8 ? "x" : "xx"), 1);
        }

        Check.about("small letters: a to z");
        for (char sign : new char[] {'a' - 1, 'z' + 1, 'A', 'Z', 'a' + 128, 'z' + 128}) {
            Check.faultAtBar("colour |" + sign, 1);
            Check.faultAtBar("colour a|" + sign + " left", 1);
        }
    }

    private static void wholesHaveOneToThreeDigits() {
        Check.about("WHOLES of 1 to 3 digits that stand together");
        new Run().told(ONE.replace("length 4", "length 7"), 1).due("size(4)", 7).end();
        new Run().told(ONE.replace("length 4", "length 07"), 1).due("size(4)", 7).end();
        new Run().told(ONE.replace("length 4", "length 007"), 1).due("size(4)", 7).end();
        Check.faultAtBar("cloth length |0007", 1);
        Check.faultAtBar("cloth length |" + "1".repeat(300), 1);
        Check.faultAtBar("cloth length |999", 4);
        Check.faultAtBar("cloth length |1000", 1);
        Check.faultAtBar("cloth length |4294967300", 1);
        Check.faultAtBar("note left |0000", 1);

        Check.about("digits: 0 to 9");
        for (char sign : new char[] {'0' - 1, '9' + 1, '0' + 128}) {
            Check.faultAtBar("cloth length |" + sign, 1);
            Check.faultAtBar("cloth length 4|" + sign, 1);
        }
        Check.fine(ONE.replace("slack 0", "slack 9").replace("length 4", "length 50"), 1);
    }

    private static void signsAreSingle() {
        Check.about("single ones of ; ,");
        for (char sign : new char[] {';' - 1, ';' + 1, ',' - 1, ',' + 1, '.', '(', '\n'}) {
            Check.faultAtBar(ONE + "|" + sign + "row b of r 0", 1);
            Check.faultAtBar(THREE + ";next a then a|" + sign + "b", 1);
        }
        Check.faultAtBar(ONE + ";|;row b of r 0", 1);
        Check.faultAtBar(THREE + ";next a then a,|,b", 1);
        Check.faultAtBar(ONE + "|,row b of r 0", 1);
        Check.faultAtBar(THREE + ";next a then a;|b", 1);
    }

    private static void linesArePartedBySemicolons() {
        Check.about("LINE {; LINE}");
        Check.faultAtBar("|", 1);
        Check.faultAtBar(blanks(20) + "|", 1);
        Check.faultAtBar("|;" + ONE, 1);
        Check.faultAtBar(ONE + ";|", 1);
        Check.faultAtBar(ONE + ";" + blanks(7) + "|", 1);
        Check.faultAtBar(ONE + " |row b of r 0", 1);
        Check.faultAtBar(CLOTH + "|,", 1);
        Check.faultAtBar(CLOTH + " |1", 1);
        for (String word : "length slack rate of then before seam plain a b".split(" ")) {
            Check.faultAtBar(ONE + ";|" + word + " a", 1);
        }
        Check.fine("colour r left 9 right 9;row a of r 0;left a;right a;" + CLOTH, 1);
    }

    /** Lines cut behind each token; a point stands where one is whole. */
    private static void linesAreWhole() {
        String[] lines = {"cloth length 4 slack 0 left 1 right 1 rate 1.", "colour q left 1 right 1.", "row b of r 1. seam.", "next a then a.",
            "answers a a.", "left a. , a.", "right a. , a.", "motif m plain a. , a.", "motif m mirrored a.", "motif m turning a.",
            "motif m growing a.", "note left 1 before right 1.", "note right 1 before left 1."};
        for (String line : lines) {
            Check.about("1 FORM: a TOKEN with which no CLOTH goes on, the end: " + line);
            String ahead = (line.startsWith("cloth") ? "" : CLOTH + ";") + "colour r left 9 right 9;row a of r 0;next a then a;";
            ahead = line.startsWith("next") ? ahead.replace("next a then a;", "") : ahead;
            for (String token : line.split(" ")) {
                ahead += token.replace(".", "");
                if (token.endsWith(".")) {
                    Check.fine(ahead, ahead.contains("row b") ? 2 : 1);
                    Check.fine(ahead + "  ", ahead.contains("row b") ? 2 : 1);
                } else {
                    Check.faultAtBar(ahead + "|", 1);
                    Check.faultAtBar(ahead + " |;", 1);
                    Check.faultAtBar(ahead + " |;row z of r 0", 1);
                    Check.faultAtBar(ahead + " |,", 1);
                    Check.faultAtBar(ahead + " |?", 1);
                }
                ahead += " ";
            }
        }
    }

    // ---- lines

    /** A whole of a line at both bounds and just beyond; it stands between what is ahead and behind. */
    private static void whole(String ahead, String behind, int least, int most) {
        Check.fine(ahead + least + behind, 1);
        Check.fine(ahead + most + behind, 1);
        if (least > 0) {
            Check.faultAtBar(ahead + "|" + (least - 1) + behind, 4);
        }
        Check.faultAtBar(ahead + "|" + (most + 1) + behind, 4);
        Check.faultAtBar(ahead + "|999" + behind, 4);
        Check.faultAtBar(ahead + "|" + (most + 1), 4);
        Check.faultAtBar(ahead + "|1000" + behind, 1);
        Check.faultAtBar(ahead + "|-1" + behind, 1);
        Check.faultAtBar(ahead + "|a" + behind, 1);
        Check.faultAtBar(ahead + "|", 1);
    }

    private static void clothBounds() {
        String rest = COLOUR + ";row a of r 0";
        Check.about("cloth length 4 .. 60");
        whole("cloth length ", " slack 0 left 1 right 1 rate 1" + rest, 4, 60);
        new Run().told(ONE.replace("length 4", "length 60"), 1).due("size(4)", 60).end();
        new Run().told(ONE, 1).due("size(4)", 4).end();
        Check.about("slack 0 .. 9");
        whole("cloth length 4 slack ", " left 1 right 1 rate 1" + rest, 0, 9);
        new Run().told(ONE.replace("slack 0", "slack 9"), 1).due("size(5)", 9).end();
        new Run().told(ONE, 1).due("size(5)", 0).end();
        Check.about("the left's hand 1 .. 9");
        whole("cloth length 4 slack 0 left ", " right 1 rate 1" + rest, 1, 9);
        new Run().told(ONE.replace("left 1 right 1", "left 9 right 1"), 1).due("size(6)", 9).due("size(7)", 1).end();
        Check.about("the right's hand 1 .. 9");
        whole("cloth length 4 slack 0 left 1 right ", " rate 1" + rest, 1, 9);
        new Run().told(ONE.replace("left 1 right 1", "left 1 right 9"), 1).due("size(6)", 1).due("size(7)", 9).end();
        Check.about("rate 1 .. 5");
        whole("cloth length 4 slack 0 left 1 right 1 rate ", rest, 1, 5);
        new Run().told(ONE.replace("rate 1", "rate 5"), 1).due("size(8)", 5).end();

        Check.about("FORM of cloth");
        String[] words = CLOTH.split(" ");
        String ahead = "";
        for (String word : words) {
            Check.faultAtBar(ahead + "|", 1);
            Check.faultAtBar(ahead + "|;", 1);
            Check.faultAtBar(ahead + "|,", 1);
            Check.faultAtBar(ahead + "|" + (Character.isDigit(word.charAt(0)) ? "rate" : "5"), 1);
            ahead += word + " ";
        }
        Check.about("3: a second cloth, at that WORD");
        Check.faultAtBar(CLOTH + ";|cloth", 3);
        Check.faultAtBar(ONE + ";|cloth length 99", 3);
        Check.faultAtBar(ONE + ";|" + CLOTH, 3);
        Check.about("6 LACKS, at the end: no cloth");
        Check.faultAtBar("colour r left 9 right 9;row a of r 0|", 6);
        Check.faultAtBar("colour r left 9 right 9;row a of r 0" + blanks(9) + "|", 6);
    }

    private static void colourBounds() {
        Check.about("colour NAME left 0 .. 9");
        whole(CLOTH + ";colour r left ", " right 1;row a of r 0", 0, 9);
        Check.about("colour NAME right 0 .. 9");
        whole(CLOTH + ";colour r left 1 right ", ";row a of r 0", 0, 9);
        String two = CLOTH + ";colour r left 0 right 9;colour g left 9 right 0";
        Run run = new Run().told(two + ";row a of g 1", 1).due("size(1)", 2).due("row(0, 0)", 1);
        run.due("colour(0, 0, 0)", 0).due("colour(1, 0, 0)", 9).due("colour(0, 1, 0)", 9).due("colour(1, 1, 0)", 0).end();
        new Run().told(ONE, 1).due("size(1)", 1).end();
        Check.about("colour: up to 2; 5 MANY at its first WORD");
        Check.faultAtBar(two + ";|colour b left 1 right 1", 5);
        Check.faultAtBar(two + ";|colour", 5);
        Check.faultAtBar(two + ";|colour r", 5);
        Check.faultAtBar(two + ";row a of r 0;left a;|colour b left 1 right 1", 5);
        Check.about("FORM of colour");
        Check.faultAtBar("colour|", 1);
        Check.faultAtBar("colour |1", 1);
        Check.faultAtBar("colour r |right", 1);
        Check.faultAtBar("colour r left 1 |left", 1);
        Check.faultAtBar("colour r left 1|;", 1);
    }

    private static String kinds(int n) {
        StringBuilder all = new StringBuilder(CLOTH + COLOUR);
        for (int i = 0; i < n; i++) {
            all.append(";row ").append((char) ('a' + i)).append(" of r ").append(i % 4);
        }
        return all.toString();
    }

    private static void rowBounds() {
        Check.about("row NAME of COLOUR 0 .. 3");
        whole(CLOTH + COLOUR + ";row a of r ", "", 0, 3);
        whole(CLOTH + COLOUR + ";row a of r ", " seam", 0, 3);
        Check.about("row: up to 8; 5 MANY at its first WORD");
        for (int n = 1; n <= 8; n++) {
            Run run = new Run().told(kinds(n), n).due("size(0)", n).due("row(" + (n - 1) + ", 1)", (n - 1) % 4);
            run.refused(1, "row(" + n + ", 1)").end();
        }
        Check.faultAtBar(kinds(8) + ";|row i of r 1", 5);
        Check.faultAtBar(kinds(8) + ";|row", 5);
        Check.faultAtBar(kinds(8) + ";|row a", 5);
        Check.about("row: behind it perhaps seam");
        new Run().told(ONE + " seam;row b of r 0", 2).due("row(0, 2)", 1).due("row(1, 2)", 0).end();
        Check.faultAtBar(ONE + " seam |seam", 1);
        Check.faultAtBar(ONE + " |seams", 1);
        Check.about("FORM of row");
        Check.faultAtBar("row|", 1);
        Check.faultAtBar("row a |a", 1);
        Check.faultAtBar("row a of |1", 1);
        Check.faultAtBar("row a of |left", 1);
        Check.faultAtBar(CLOTH + COLOUR + ";row a of r |seam", 1);
        Check.about("6 LACKS, at the end: no row");
        Check.faultAtBar(CLOTH + COLOUR + "|", 6);
        Check.faultAtBar(CLOTH + "|", 6);
        Check.faultAtBar(CLOTH + blanks(4) + "|", 6);
        Check.about("of one place the least number: 1 FORM ahead of 6 LACKS at the end");
        Check.faultAtBar(CLOTH + ";|", 1);
        Check.faultAtBar("colour r left 1 right 1;" + blanks(3) + "|", 1);
    }

    private static void nextRowsAreUnlike() {
        Check.about("next ROW then ROW {, ROW}: unlike ones");
        String all = kinds(8) + ";next a then h,g,f,e,d,c,b,a";
        Run run = new Run().told(all, 8);
        for (int r = 0; r < 8; r++) {
            run.due("next(0, " + r + ")", 1).due("next(7, " + r + ")", 0);
        }
        run.end();
        Check.faultAtBar(all + ",|a", 3);
        Check.faultAtBar(all + ",|h", 3);
        Check.faultAtBar(THREE + ";next b then a,|a", 3);
        Check.faultAtBar(THREE + ";next b then b,a,|b", 3);
        Check.fine(THREE + ";next a then a;next b then a", 3);
        Check.about("next: each ROW once ahead of then");
        Check.fine(THREE + ";next a then a,b,c;next b then a,b,c;next c then a,b,c", 3);
        Check.faultAtBar(THREE + ";next a then b;next |a then c", 3);
        Check.faultAtBar(THREE + ";next a then b;next b then c;next c then a;next |b", 3);
        Check.about("next: 2 at a NAME that isn't told, or is of another sort");
        Check.faultAtBar(THREE + ";next |d then a", 2);
        Check.faultAtBar(THREE + ";next |r then a", 2);
        Check.faultAtBar(THREE + ";next a then |d", 2);
        Check.faultAtBar(THREE + ";next a then a,b,c,|r", 2);
        Check.about("FORM of next");
        Check.faultAtBar(THREE + ";next|", 1);
        Check.faultAtBar(THREE + ";next |1", 1);
        Check.faultAtBar(THREE + ";next a |a", 1);
        Check.faultAtBar(THREE + ";next a|, b then a", 1);
        Check.faultAtBar(THREE + ";next a then|", 1);
        Check.faultAtBar(THREE + ";next a then |1", 1);
        Check.faultAtBar(THREE + ";next a then a,|", 1);
        Check.faultAtBar(THREE + ";next a then a |b", 1);
    }

    private static void answersOnce() {
        Check.about("answers ROW ROW: may be like");
        new Run().told(THREE + ";answers a a;answers b c", 3).due("row(0, 3)", 0).due("row(1, 3)", 2).due("row(2, 3)", 1).end();
        Check.about("PARTNER: either way; itself without");
        new Run().told(THREE + ";answers c a", 3).due("row(0, 3)", 2).due("row(2, 3)", 0).due("row(1, 3)", 1).end();
        Check.about("answers: no ROW in two such LINES");
        Check.faultAtBar(THREE + ";answers a b;answers |a c", 3);
        Check.faultAtBar(THREE + ";answers a b;answers |b c", 3);
        Check.faultAtBar(THREE + ";answers a b;answers c |a", 3);
        Check.faultAtBar(THREE + ";answers a b;answers c |b", 3);
        Check.faultAtBar(THREE + ";answers a a;answers |a a", 3);
        Check.faultAtBar(THREE + ";answers a a;answers b |a", 3);
        for (char r = 'a'; r <= 'h'; r++) {
            Check.faultAtBar(kinds(8) + ";answers a b;answers c d;answers e f;answers g h;answers |" + r, 3);
        }
        Check.fine(kinds(8) + ";answers a h;answers b g;answers c f;answers d e", 8);
        Check.about("answers: 2 at a NAME that isn't told, or is of another sort");
        Check.faultAtBar(THREE + ";answers |d a", 2);
        Check.faultAtBar(THREE + ";answers |r a", 2);
        Check.faultAtBar(THREE + ";answers a |d", 2);
        Check.faultAtBar(THREE + ";answers a |r", 2);
        Check.about("FORM of answers");
        Check.faultAtBar(THREE + ";answers|", 1);
        Check.faultAtBar(THREE + ";answers a|", 1);
        Check.faultAtBar(THREE + ";answers a|,b", 1);
        Check.faultAtBar(THREE + ";answers a b|,c", 1);
        Check.faultAtBar(THREE + ";answers a b |c", 1);
    }

    private static void upToTwelveRowsAhead() {
        String free = THREE + ";next a then a,c";
        String[] sides = {"left", "right"};
        for (int side = 0; side < 2; side++) {
            String line = ";" + sides[side] + " a";
            Check.about(sides[side] + " ROW {, ROW}: up to 12");
            new Run().told(free + line, 3).due("rows(" + side + ")", 1).due("rows(" + (1 - side) + ")", 0).end();
            new Run().told(free + line + ",a".repeat(11), 3).due("rows(" + side + ")", 12).due("size(10)", 0).end();
            Check.faultAtBar(free + line + ",a".repeat(11) + ",|a", 5);
            Check.faultAtBar(free + line + ",a".repeat(11) + ",|a,a", 5);
            Check.about("of one place the least number: 2 ahead of 5, 5 ahead of 7, 1 ahead of 5");
            Check.faultAtBar(free + line + ",a".repeat(11) + ",|d", 2);
            Check.faultAtBar(free + line + ",a".repeat(11) + ",|r", 2);
            Check.faultAtBar(free + line + ",a".repeat(11) + ",|b", 5);
            Check.faultAtBar(free + line + ",a".repeat(11) + ",|left", 1);
            Check.faultAtBar(free + line + ",a".repeat(11) + ",|", 1);
            Check.about("3: a second " + sides[side] + ", at that WORD");
            Check.faultAtBar(free + line + ";|" + sides[side], 3);
            Check.faultAtBar(free + line + ";|" + sides[side] + " d", 3);
            Check.faultAtBar(free + ";left a;right a;|" + sides[side] + " a", 3);
            Check.about(sides[side] + ": 2 at a NAME that isn't told, or is of another sort");
            Check.faultAtBar(free + ";" + sides[side] + " |d", 2);
            Check.faultAtBar(free + ";" + sides[side] + " |r", 2);
            Check.faultAtBar(free + line + ",|r", 2);
            Check.about("FORM of " + sides[side]);
            Check.faultAtBar(free + ";" + sides[side] + "|", 1);
            Check.faultAtBar(free + ";" + sides[side] + " |1", 1);
            Check.faultAtBar(free + line + ",|", 1);
            Check.faultAtBar(free + line + " |a", 1);
        }
        mayNotComeThere();
        notColourEnough();
    }

    private static void mayNotComeThere() {
        Check.about("7: a ROW of left, right that may not come there");
        Check.fine(THREE + ";next a then b;left a,b", 3);
        Check.faultAtBar(THREE + ";next a then b;left b,|a", 7);
        Check.faultAtBar(THREE + ";next a then b;left a,b,|b", 7);
        Check.fine(THREE + ";next a then b;right b,a", 3);
        Check.faultAtBar(THREE + ";next a then b;right a,|b", 7);
        Check.faultAtBar(THREE + ";next a then b;right b,a,|a", 7);
        for (String first : new String[] {"a", "b", "c"}) {
            Check.fine(THREE + ";left " + first + ";right " + first, 3);
        }
        Check.about("7: by what is told ahead");
        Check.faultAtBar(THREE + ";left a,|a;next a then a", 7);
        Check.faultAtBar(THREE + ";right a,|a;next a then a", 7);
        Check.fine(THREE + ";next a then a;left a,a;right a,a", 3);
        Check.about("7: behind a seam ROW");
        Check.fine(THREE + ";next a then c;next c then a;left a,c;right a,c", 3);
        Check.faultAtBar(THREE + ";next a then c;next c then a;left a,c,|a", 7);
        Check.faultAtBar(THREE + ";next a then c;next c then a;right a,c,|a", 7);
        Check.about("7: the two sides may meet or not");
        Check.fine(THREE + ";left a;right b", 3);
    }

    private static void notColourEnough() {
        Check.about("7: a ROW of left, right of which there isn't colour enough");
        String text = CLOTH + ";colour r left 4 right 3;colour g left 0 right 1;row a of r 2;row b of r 1;row d of g 1;row z of g 0;"
            + "next a then a,b,z;next b then a,b,z,d;next z then z,a,b";
        Check.fine(text + ";left a,a", 4);
        Check.faultAtBar(text + ";left a,a,|a", 7);
        Check.faultAtBar(text + ";left a,a,|b", 7);
        Check.fine(text + ";left a,a,z,z", 4);
        Check.fine(text + ";right b,a", 4);
        Check.faultAtBar(text + ";right a,|a", 7);
        Check.faultAtBar(text + ";left |d", 7);
        Check.fine(text + ";right d", 4);
        Check.faultAtBar(text + ";right d,b,a,|b", 7);
        new Run().told(text + ";left a,a;right d,b,a", 4).due("colour(0, 0, 0)", 0).due("colour(1, 0, 0)", 0)
            .due("colour(1, 1, 0)", 0).due("colour(0, 0, 1)", 4).due("colour(1, 0, 1)", 3).due("colour(1, 1, 1)", 1)
            .due("colour(0, 0, 2)", 0).due("colour(1, 1, 2)", 0).end();
    }

    private static void motifBounds() {
        Check.about("motif KIND: plain, mirrored, turning, or growing");
        for (String kind : "plain mirrored turning growing".split(" ")) {
            Check.about("motif " + kind + ": up to 4 ROWS, like ones too");
            Check.fine(THREE + ";motif m " + kind + " a", 3);
            Check.fine(THREE + ";motif m " + kind + " a,a,a,a", 3);
            Check.fine(THREE + ";motif m " + kind + " a,b,c,a", 3);
            Check.faultAtBar(THREE + ";motif m " + kind + " a,a,a,a,|a", 5);
            Check.faultAtBar(THREE + ";motif m " + kind + " a,b,c,a,|b,c", 5);
            Check.about("of one place the least number: 1, 2 ahead of 5");
            Check.faultAtBar(THREE + ";motif m " + kind + " a,a,a,a,|d", 2);
            Check.faultAtBar(THREE + ";motif m " + kind + " a,a,a,a,|m", 2);
            Check.faultAtBar(THREE + ";motif m " + kind + " a,a,a,a,|seam", 1);
            Check.faultAtBar(THREE + ";motif m " + kind + "|", 1);
            Check.faultAtBar(THREE + ";motif m " + kind + " a,|", 1);
            Check.faultAtBar(THREE + ";motif m " + kind + " |" + kind, 2);
        }
        Check.about("FORM of motif");
        for (String kind : "plai plains mirror turned grow a m seam 1 ;".split(" ")) {
            Check.faultAtBar(THREE + ";motif m |" + kind + " a", 1);
        }
        Check.faultAtBar(THREE + ";motif|", 1);
        Check.faultAtBar(THREE + ";motif m|", 1);
        Check.faultAtBar(THREE + ";motif |1", 1);
        Check.about("motif: up to 4; 5 MANY at its first WORD");
        String all = THREE;
        new Run().told(all, 3).due("size(2)", 0).refused(1, "seen(0, 0)").end();
        for (int n = 1; n <= 4; n++) {
            all += ";motif " + "m".repeat(n) + " plain a";
            new Run().told(all, 3).due("size(2)", n).due("seen(" + (n - 1) + ", 0)", 0).refused(1, "seen(" + n + ", 0)").end();
        }
        Check.faultAtBar(all + ";|motif n plain a", 5);
        Check.faultAtBar(all + ";|motif", 5);
        Check.faultAtBar(all + ";|motif m", 5);
    }

    private static void noteBounds() {
        Check.about("note left 0 .. 23 before right 0 .. 23");
        whole(ONE + ";note left ", " before right 0", 0, 23);
        whole(ONE + ";note left 0 before right ", "", 0, 23);
        Check.about("note right 0 .. 23 before left 0 .. 23");
        whole(ONE + ";note right ", " before left 0", 0, 23);
        whole(ONE + ";note right 0 before left ", "", 0, 23);
        Check.about("note: up to 6; 5 MANY at its first WORD");
        String all = ONE;
        new Run().told(all, 1).due("size(3)", 0).end();
        for (int n = 1; n <= 6; n++) {
            all += n % 2 == 0 ? ";note left 1 before right 2" : ";note right 1 before left 2";
            new Run().told(all, 1).due("size(3)", n).end();
        }
        Check.faultAtBar(all + ";|note left 1 before right 1", 5);
        Check.faultAtBar(all + ";|note", 5);
        Check.about("FORM of note");
        Check.faultAtBar(ONE + ";note|", 1);
        Check.faultAtBar(ONE + ";note |a", 1);
        Check.faultAtBar(ONE + ";note |1", 1);
        Check.faultAtBar(ONE + ";note left 1|", 1);
        Check.faultAtBar(ONE + ";note left 1 |right", 1);
        Check.faultAtBar(ONE + ";note left 1 before|", 1);
        Check.faultAtBar(ONE + ";note left 1 before |left 2", 1);
        Check.faultAtBar(ONE + ";note right 1 before |right 2", 1);
        Check.faultAtBar(ONE + ";note left 1 before |1", 1);
        Check.faultAtBar(ONE + ";note left 1 before right 1 |1", 1);
    }

    // ---- names

    private static void namesAreNoWordsOfLines() {
        Check.about("NAMES are WORDS but the twelve");
        for (String word : "cloth colour row next answers left right motif note seam then before".split(" ")) {
            Check.faultAtBar("colour |" + word + " left 1 right 1", 1);
            Check.faultAtBar("row |" + word, 1);
            Check.faultAtBar("row a of |" + word, 1);
            Check.faultAtBar("motif |" + word, 1);
            Check.faultAtBar(ONE + ";next |" + word, 1);
            Check.faultAtBar(ONE + ";next a then |" + word, 1);
            Check.faultAtBar(ONE + ";answers |" + word, 1);
            Check.faultAtBar(ONE + ";answers a |" + word, 1);
            Check.faultAtBar(ONE + ";left |" + word, 1);
            Check.faultAtBar(ONE + ";right |" + word, 1);
            Check.faultAtBar(ONE + ";motif m plain |" + word, 1);
            Check.fine(CLOTH + ";colour r left 1 right 1;row x" + word + " of r 0", 1);
        }
        Check.about("NAMES: other WORDS of LINES may be");
        for (String word : "length slack rate of plain mirrored turning growing".split(" ")) {
            Check.fine(CLOTH + ";colour " + word + " left 1 right 1;row a of " + word + " 0", 1);
            Check.fine(CLOTH + COLOUR + ";row " + word + " of r 0;next " + word + " then " + word + ";left " + word + ","
                + word + ";answers " + word + " " + word, 1);
            Check.fine(ONE + ";motif " + word + " growing a", 1);
        }
    }

    private static void namesDifferByEveryLetterAndItsPlace() {
        Check.about("NAMES are WORDS: unlike ones tell unlike ROWS");
        String[] words = ("a b y z aa ab ac ba bb az za zy yz zz aab aba baa abc acb bca cba abcdefg abcdefgh hgfedcba bacdefgh"
            + " abcdefhg aaaaaaaa aaaaaaab baaaaaaa zzzzzzzz zzzzzzzy yzzzzzzz").split(" ");
        for (String one : words) {
            for (String other : words) {
                if (!one.equals(other)) {
                    TwoWeavers x = Check.told(CLOTH + ";colour hue left 0 right 0;row " + one + " of hue 0;row " + other
                        + " of hue 0;left " + other + ";right " + one);
                    Check.due("at(0, 0) of " + one + ", " + other, x.at(0, 0), 1);
                    Check.due("at(1, 0) of " + one + ", " + other, x.at(1, 0), 0);
                }
            }
        }
    }

    private static void namesAreToldOnceAheadOfUse() {
        Check.about("3: a NAME told again; at it");
        Check.faultAtBar("colour r left 1 right 1;colour |r left 1 right 1", 3);
        Check.faultAtBar(ONE + ";row |a of r 1", 3);
        Check.faultAtBar(ONE + ";row |r of r 1", 3);
        Check.faultAtBar(ONE + ";colour |a left 1 right 1", 3);
        Check.faultAtBar(ONE + ";motif |r plain a", 3);
        Check.faultAtBar(ONE + ";motif |a plain a", 3);
        Check.faultAtBar(ONE + ";motif m plain a;motif |m plain a", 3);
        Check.faultAtBar(ONE + ";motif m plain a;row |m of r 1", 3);
        Check.faultAtBar(ONE + ";motif m plain a;colour |m left 1 right 1", 3);
        String most = kinds(8) + ";colour abcdefgh left 1 right 1;motif m plain a;motif n plain a;motif o plain a";
        Check.fine(most + ";motif p plain h", 8);
        for (String name : "r a b c d e f g h abcdefgh m n o".split(" ")) {
            Check.faultAtBar(most + ";motif |" + name, 3);
        }
        Check.about("NAMES: the last of all that there is room for is told, too");
        Check.fine(kinds(7) + ";colour y left 1 right 1;motif m plain a;motif n plain a;motif o plain a;motif p plain a;row z of y 0;left z;right z", 8);
        Check.fine(CLOTH + ";colour r left 1 right 1;row a of r 1;motif m plain a;motif n plain a;motif o plain a;motif p plain a;"
            + "row b of r 1;row c of r 1;row d of r 1;row e of r 1;row f of r 1;row g of r 1;colour q left 1 right 1;row h of q 0;answers h a", 8);
        Check.about("2: a NAME that isn't told, or is of another sort than must stand there; at it");
        Check.faultAtBar("row a of |r 1;colour r left 1 right 1", 2);
        Check.faultAtBar("row a of |a 1", 2);
        Check.faultAtBar(ONE + ";row b of |a 1", 2);
        Check.faultAtBar(ONE + ";motif m plain a;row b of |m 1", 2);
        Check.faultAtBar(ONE + ";motif m plain a;next |m", 2);
        Check.faultAtBar(ONE + ";motif m plain |m", 2);
        Check.faultAtBar(ONE + ";motif m plain |r", 2);
        Check.faultAtBar(ONE + ";left |b;row b of r 1", 2);
        Check.about("FAULTS, the first that is met from the left");
        Check.faultAtBar("row a of |r 4;?", 2);
        Check.faultAtBar("cloth length |61 slack 10;?", 4);
        Check.faultAtBar("cloth |? length 61", 1);
        Check.faultAtBar(ONE + ";left a,|a;left a;right b", 7);
        Check.faultAtBar(ONE + ";row |a of x 9", 3);
        Check.faultAtBar("colour r left 1 right 1;row a of r |4 sea", 4);
    }
}
