/** Promises 19 to 27 and what Terms II says of them: each bound of a meeting, of ways, of sure rows. */
public final class MeetingEdgesTest {
    private static final String FREE = "colour r left 0 right 0;row a of r 0;next a then a";
    private static final long MOST_WAYS = 1000000000000000000L;

    public static void main(String[] args) {
        unitsFromLengthUpToLengthAndSlack();
        bothHaveRows();
        rightsLastComesRightOfLeftsLast();
        bestKeepsToUnits();
        bestWithUnlikeHands();
        bestKeepsToColours();
        bestKeepsToBothColours();
        slackAboveLength();
        eachSideRipsItsOwn();
        bestKeepsToTwentyFourRows();
        bestKeepsToSeams();
        bestInItsOrder();
        bestIsOfWhatStands();
        meetingIsRefused();
        wovenIsRefused();
        takesIsRefused();
        far();
        waysAreCounted();
        bothColoursToTheLast();
        waysAtMostTold();
        sureIsRefused();
        sureIfTheOtherMayNone();
        sureForEachRow();
        third();
        Check.end();
    }

    private static String cloth(int length, int slack, int left, int right) {
        return "cloth length " + length + " slack " + slack + " left " + left + " right " + right + " rate 1;";
    }

    private static String side(String name, int rows) {
        return rows == 0 ? "" : ";" + name + " a" + ",a".repeat(rows - 1);
    }

    /** So many rows of one kind that takes nothing, on both sides. */
    private static Run standing(String cloth, int left, int right) {
        return new Run().told(cloth + FREE + side("left", left) + side("right", right));
    }

    // ---- whether they meet

    private static void unitsFromLengthUpToLengthAndSlack() {
        Check.about("They MEET if UNITS are from length up to length and slack");
        int[] due = {0, 1, 1, 1, 0};
        for (int i = 0; i < due.length; i++) {
            standing(cloth(6, 2, 1, 1), 4, 1 + i).due("units()", 5 + i).due("meets()", due[i]).end();
            standing(cloth(6, 2, 1, 1), 1 + i, 4).due("units()", 5 + i).due("meets()", due[i]).end();
        }
        Check.about("They MEET: slack 0");
        standing(cloth(6, 0, 1, 1), 3, 2).due("meets()", 0).due("weave(1, 0)", 1).due("meets()", 1).due("weave(0, 0)", 1).due("meets()", 0)
            .due("rip(1)", 1).due("meets()", 1).end();
        Check.about("They MEET: each side's rows times its hand");
        standing(cloth(7, 0, 3, 2), 1, 2).due("units()", 7).due("meets()", 1).end();
        standing(cloth(7, 0, 3, 2), 2, 1).due("units()", 8).due("meets()", 0).end();
        standing(cloth(7, 1, 3, 2), 2, 1).due("meets()", 1).end();
        Check.about("They MEET: length 60, slack 9");
        standing(cloth(60, 9, 6, 9), 1, 6).due("units()", 60).due("meets()", 1).end();
        standing(cloth(60, 9, 5, 9), 1, 6).due("units()", 59).due("meets()", 0).end();
        standing(cloth(60, 9, 6, 9), 1, 7).due("units()", 69).due("meets()", 1).end();
        standing(cloth(60, 9, 7, 9), 1, 7).due("units()", 70).due("meets()", 0).end();
    }

    private static void bothHaveRows() {
        Check.about("They MEET: both have rows");
        standing(cloth(4, 0, 1, 1), 4, 0).due("units()", 4).due("meets()", 0).due("meeting(0)", 1).due("ways()", 0).end();
        standing(cloth(4, 0, 1, 1), 0, 4).due("units()", 4).due("meets()", 0).due("meeting(0)", 1).due("ways()", 0).end();
        standing(cloth(4, 0, 1, 1), 0, 0).due("meets()", 0).due("meeting(1)", 4).due("meeting(3)", 1).end();
        standing(cloth(4, 1, 1, 1), 4, 0).due("meets()", 0).due("meeting(0)", 0).due("meeting(1)", 1).due("ways()", 1).end();
        Check.about("A MEETING: a side that weaves must be left with rows too");
        new Run().told(cloth(4, 0, 1, 1) + "colour r left 4 right 0;row a of r 1;next a then a").due("meeting(0)", -2).due("ways()", 0).end();
        new Run().told(cloth(4, 0, 1, 1) + "colour r left 0 right 4;row a of r 1;next a then a").due("meeting(0)", -2).due("ways()", 0).end();
    }

    private static void rightsLastComesRightOfLeftsLast() {
        Check.about("They MEET: the right's last row may come right of the left's last one");
        String text = cloth(4, 0, 2, 2) + "colour r left 9 right 9;row a of r 1;row b of r 1;row s of r 1 seam;next a then b,s;next s then b";
        int[][] due = {{0, 1, 1}, {0, 0, 0}, {0, 1, 0}};
        for (int left = 0; left < 3; left++) {
            for (int right = 0; right < 3; right++) {
                Run run = new Run().told(text).all(1, "weave(0, " + left + ")", "weave(1, " + right + ")").due("units()", 4);
                run.due("meets()", due[left][right]).due("ways()", due[left][right]).end();
            }
        }
    }

    // ---- the best meeting

    private static void bestKeepsToUnits() {
        Check.about("A MEETING: UNITS up to length and slack");
        standing(cloth(10, 7, 9, 9), 0, 0).due("meeting(1)", -2).due("ways()", 0).due("sureRows(0)", 0).end();
        standing(cloth(10, 8, 9, 9), 0, 0).due("meeting(1)", 2).due("ways()", 1).due("sureRows(0)", 1).end();
        standing(cloth(60, 2, 9, 9), 0, 0).due("meeting(1)", -2).due("ways()", 0).due("sureRows(1)", 0).end();
        standing(cloth(60, 3, 9, 9), 0, 0).due("meeting(1)", 7).due("meeting(3)", 1).due("ways()", 6).due("sureRows(1)", 1).end();
        Check.about("A MEETING: UNITS from length on");
        standing(cloth(28, 0, 9, 9), 2, 1).due("meeting(0)", -2).due("ways()", 0).end();
        standing(cloth(27, 0, 9, 9), 2, 1).due("meeting(0)", 0).due("meeting(1)", 0).due("ways()", 1).end();
        standing(cloth(28, 8, 9, 9), 2, 1).due("meeting(1)", 1).due("meeting(3)", 0).due("ways()", 2).end();
        standing(cloth(28, 7, 9, 9), 2, 1).due("meeting(0)", -2).due("ways()", 0).end();
        Check.about("A MEETING: too long by one, so one is ripped");
        standing(cloth(4, 1, 1, 1), 3, 2).due("meeting(0)", 0).due("meeting(1)", 0).due("ways()", 1).end();
        standing(cloth(4, 0, 1, 1), 3, 2).due("meeting(0)", 1).due("meeting(1)", 0).due("meeting(2)", 0).due("ways()", 0).end();
        standing(cloth(4, 0, 1, 1), 12, 12).due("meeting(0)", 20).due("meeting(1)", 0).due("meeting(2)", 9).end();
    }

    private static void bestWithUnlikeHands() {
        Check.about("A MEETING: hands 1 and 9");
        standing(cloth(10, 0, 9, 1), 0, 0).due("meeting(1)", 2).due("meeting(3)", 1).due("ways()", 1).due("sureRows(0)", 1).end();
        standing(cloth(10, 0, 1, 9), 0, 0).due("meeting(1)", 2).due("meeting(3)", 1).due("ways()", 1).due("sureRows(1)", 1).end();
        standing(cloth(12, 0, 9, 1), 0, 0).due("meeting(1)", 4).due("meeting(3)", 1).due("ways()", 1).end();
        standing(cloth(12, 0, 1, 9), 0, 0).due("meeting(1)", 4).due("meeting(3)", 3).due("ways()", 1).end();
        standing(cloth(60, 0, 9, 1), 0, 0).due("meeting(1)", 12).due("meeting(3)", 6).due("ways()", 3).end();
        standing(cloth(60, 0, 1, 9), 0, 0).due("meeting(1)", 12).due("meeting(3)", 6).due("ways()", 3).end();
        standing(cloth(60, 9, 1, 9), 0, 0).due("meeting(1)", 8).due("meeting(3)", 1).end();
        standing(cloth(60, 9, 9, 1), 0, 0).due("meeting(1)", 8).due("meeting(3)", 7).end();
    }

    private static void bestKeepsToBothColours() {
        Check.about("A MEETING: each colour as it is in its STORE");
        String two = "row a of r 1;row b of g 1;next a then a,b;next b then a,b";
        int[][] stores = {{1, 1, 1, 1}, {0, 2, 2, 0}, {2, 0, 0, 2}, {0, 1, 1, 1}, {1, 1, 0, 1}};
        int[] ways = {4, 1, 1, 0, 0};
        for (int i = 0; i < stores.length; i++) {
            int[] s = stores[i];
            Run run = new Run().told(cloth(4, 0, 1, 1) + "colour r left " + s[0] + " right " + s[2] + ";colour g left " + s[1] + " right " + s[3] + ";" + two);
            run.due("far(0)", s[0] + s[1]).due("far(1)", s[2] + s[3]);
            boolean enough = s[0] + s[1] + s[2] + s[3] >= 4;
            run.due("meeting(1)", enough ? 4 : -2);
            if (enough) {
                run.due("meeting(3)", 2).due("takes(0, 0)", s[0]).due("takes(0, 1)", s[1]).due("takes(1, 0)", s[2]).due("takes(1, 1)", s[3]);
            }
            run.due("ways()", ways[i]).end();
        }
        Check.about("BEST: the first by numbers, as far as each STORE lasts");
        String apart = cloth(6, 0, 1, 1) + "colour r left 1 right 1;colour g left 2 right 1;row a of r 1;row b of g 1;row c of g 0;"
            + "next a then a,b,c;next b then a,b,c;next c then a,b,c";
        wovenAre(new Run().told(apart + ";left c;right c"), 0, 0, 1, 2, 2);
        // the right is behind a seam row, so that the left weaves all; then the other way round
        String seam = apart.replace("row c of g 0;", "row c of g 0;row s of g 0 seam;").replace("next c then a,b,c", "next c then a,b,c,s;next s then a,b,c");
        wovenAre(new Run().told(seam + ";right s"), 5, 0, 1, 1, 2, 2);
        wovenAre(new Run().told(seam + ";left s"), 0, 0, 1, 2, 2, 2);
        wovenAre(new Run().told(seam.replace("colour r left 1", "colour r left 2") + ";right s"), 5, 0, 0, 1, 1, 2);
        Check.about("BEST: by numbers, where both sides weave rows of their own");
        String path = cloth(8, 0, 1, 1) + "colour r left 4 right 4;row a of r 1;row b of r 1;row c of r 1;row d of r 1;"
            + "next d then c,b;next c then d,a;next b then c,d;next a then b";
        wovenAre(new Run().told(path), 4, 0, 1, 2, 0, 1, 2, 0, 1);
        wovenAre(new Run().told(path + ";left d;right d"), 3, 1, 2, 0, 1, 3, 1);
        wovenAre(new Run().told(path.replace("left 4 right 4", "left 5 right 3") + ";left a;right a"), 4, 1, 2, 0, 1, 3, 2);
    }

    private static void bestIsOfWhatStands() {
        Check.about("BEST, WAYS, SURE: of what stands now");
        String text = cloth(9, 0, 1, 1) + "colour r left 6 right 6;row a of r 1;next a then a";
        Run run = new Run().told(text).due("meeting(1)", 9).due("meeting(3)", 3).due("ways()", 4).due("takes(0, 0)", 3).due("takes(1, 0)", 6);
        run.due("weave(0, 0)", 1).due("mark()", 0).due("meeting(1)", 8).due("meeting(3)", 2).due("ways()", 4).due("takes(0, 0)", 2);
        run.due("rip(0)", 1).due("meeting(1)", 9).due("meeting(3)", 3).due("ways()", 3).due("undo()", 1).due("meeting(1)", 8).due("ways()", 4);
        run.due("weeks(1)", 2).due("meeting(1)", 6).due("meeting(3)", 1).due("takes(1, 0)", 5).due("woven(0)", 0).refused(1, "woven(6)");
        run.due("back(0)", 1).due("meeting(1)", 8).due("rip(0)", 1).due("weave(0, 0)", 1).due("rip(0)", 1).due("meeting(3)", 3).due("ways()", 2);
        run.told(text.replace("length 9", "length 4")).due("meeting(1)", 4).due("meeting(3)", 1).due("takes(0, 0)", 1).due("takes(1, 0)", 3);
        run.due("ways()", 3).end();
        Check.about("SURE: the other's STORE is used up meanwhile");
        String other = cloth(7, 0, 1, 1) + "colour r left 3 right 4;row a of r 1;next a then a;left a;right a";
        run = new Run().told(other).due("meeting(1)", 5).due("sureRows(0)", 1).due("weave(1, 0)", 1).due("weave(1, 0)", 1).due("rip(1)", 1);
        run.due("rip(1)", 1).due("weave(1, 0)", 1).due("may(1)", 0).due("sureRows(0)", 0).due("meeting(1)", -2).end();
        run = new Run().told(other.replace("length 7", "length 5")).due("meeting(1)", 3).times(2, "weave(1, 0)").times(2, "rip(1)").due("weave(1, 0)", 1);
        run.due("may(1)", 0).due("sureRows(0)", 1).due("meeting(1)", 2).end();
    }

    private static void wovenAre(Run run, int byLeft, int... rows) {
        run.due("meeting(1)", rows.length).due("meeting(3)", byLeft);
        for (int i = 0; i < rows.length; i++) {
            run.due("woven(" + i + ")", rows[i]);
        }
        run.refused(1, "woven(" + rows.length + ")").end();
    }

    private static void bestKeepsToColours() {
        Check.about("A MEETING: colours as they are in STORES");
        int[][] stores = {{2, 2, 2}, {2, 1, -2}, {1, 2, -2}, {1, 3, 1}, {3, 1, 3}, {9, 9, 1}, {9, 2, 2}, {0, 9, -2}};
        for (int[] s : stores) {
            Run run = new Run().told(cloth(4, 0, 1, 1) + "colour r left " + s[0] + " right " + s[1] + ";row a of r 1;next a then a");
            run.due("meeting(3)", s[2]).due("meeting(0)", s[2] < 0 ? -2 : 0).end();
        }
        Check.about("A MEETING: up to 9 of a colour");
        String nine = "colour r left 9 right 9;row a of r 3;next a then a";
        new Run().told(cloth(6, 0, 1, 1) + nine).due("meeting(1)", 6).due("takes(0, 0)", 9).due("takes(1, 0)", 9).due("ways()", 1).end();
        new Run().told(cloth(7, 0, 1, 1) + nine).due("meeting(1)", -2).due("ways()", 0).end();
        Check.about("A MEETING: up to 9 of the second colour");
        String second = nine.replace("row a of r", "colour g left 9 right 9;row a of g");
        new Run().told(cloth(6, 0, 1, 1) + second).due("meeting(1)", 6).due("takes(0, 1)", 9).due("takes(1, 1)", 9).due("takes(0, 0)", 0)
            .due("ways()", 1).due("far(0)", 3).due("far(1)", 3).end();
        new Run().told(cloth(7, 0, 1, 1) + second).due("meeting(1)", -2).due("ways()", 0).end();
        Check.about("A MEETING: what is ripped does not come back to the STORE");
        String gone = "colour r left 2 right 1;row a of r 1;row b of r 0;next a then a;next b then b;left a,a;right b";
        new Run().told(cloth(4, 0, 1, 1) + gone).due("meeting(0)", 2).due("meeting(2)", 2).due("woven(0)", 1).due("takes(0, 0)", 0).end();
        new Run().told(cloth(4, 0, 1, 1) + gone.replace("row b of r 0", "row b of r 1")).due("meeting(0)", -2).due("rip(0)", 1)
            .due("meeting(0)", -2).end();
    }

    private static void slackAboveLength() {
        Check.about("A MEETING, WAYS: UNITS up to length and slack, the slack being more than the length");
        standing(cloth(4, 9, 1, 1), 0, 0).due("meeting(1)", 4).due("meeting(3)", 1).due("ways()", 75).end();
        standing(cloth(4, 9, 1, 1), 7, 6).due("meets()", 1).due("meeting(0)", 0).due("meeting(1)", 0).due("ways()", 1).end();
        standing(cloth(4, 9, 1, 1), 7, 7).due("meets()", 0).due("meeting(0)", 1).due("meeting(2)", 0).due("meeting(1)", 0)
            .due("ways()", 0).end();
        standing(cloth(4, 9, 1, 1), 12, 0).due("meeting(0)", 0).due("meeting(1)", 1).due("ways()", 1).end();
        standing(cloth(4, 9, 1, 1), 0, 12).due("meeting(0)", 0).due("meeting(1)", 1).due("ways()", 1).end();
    }

    private static void eachSideRipsItsOwn() {
        Check.about("A MEETING: a side rips no more rows than it has");
        standing(cloth(4, 0, 1, 1), 5, 0).due("meeting(0)", 2).due("meeting(2)", 2).due("meeting(1)", 1).due("meeting(3)", 0).end();
        standing(cloth(4, 0, 1, 1), 0, 5).due("meeting(0)", 2).due("meeting(2)", 0).due("meeting(1)", 1).due("meeting(3)", 1).end();
        standing(cloth(4, 0, 1, 1), 8, 1).due("meeting(0)", 5).due("meeting(2)", 5).due("meeting(1)", 0).end();
        standing(cloth(4, 0, 1, 1), 1, 8).due("meeting(0)", 5).due("meeting(2)", 0).due("meeting(1)", 0).end();
        Check.about("A MEETING: what is woven comes beside what is left when its own side has ripped");
        String text = "colour r left 9 right 9;row a of r 1;row b of r 1;row c of r 1;row d of r 1;";
        new Run().told(cloth(4, 0, 2, 1) + text + "next a then d;next c then b;next d then b;left a;right b,c").due("meeting(0)", 1)
            .due("meeting(2)", 0).due("meeting(1)", 1).due("meeting(3)", 0).due("woven(0)", 3).due("takes(1, 0)", 1).end();
        new Run().told(cloth(4, 0, 1, 2) + text + "next d then a;next b then c,d;right a;left b,c").due("meeting(0)", 1)
            .due("meeting(2)", 1).due("meeting(1)", 1).due("meeting(3)", 1).due("woven(0)", 3).due("takes(0, 0)", 1).end();
        Check.about("A MEETING: with 24 rows on both sides, what is ripped makes room");
        String full = "colour r left 0 right 0;row c of r 0;row b of r 0;row a of r 0;next a then a,b;next b then b;next c then b";
        Run run = new Run().told(cloth(48, 0, 1, 1) + full + side("left", 12) + ";right b" + ",b".repeat(11)).times(12, "weave(0, 2)");
        run.times(11, "weave(1, 1)").due("weave(1, 0)", 1).due("meets()", 0).due("meeting(0)", 1).due("meeting(1)", 1).due("meeting(2)", 0);
        run.due("meeting(3)", 0).due("woven(0)", 1).end();
    }

    private static void bestKeepsToTwentyFourRows() {
        Check.about("A MEETING: each side 24 rows at most");
        standing(cloth(48, 0, 1, 1), 0, 0).due("meeting(1)", 48).due("meeting(3)", 24).due("ways()", 1).due("sureRows(0)", 1).end();
        standing(cloth(49, 0, 1, 1), 0, 0).due("meeting(1)", -2).due("ways()", 0).due("sureRows(0)", 0).end();
        standing(cloth(47, 1, 1, 1), 12, 12).due("meeting(1)", 23).due("meeting(3)", 11).due("ways()", 3).end();
        standing(cloth(49, 9, 1, 1), 12, 12).due("meeting(1)", -2).due("ways()", 0).end();
        String seam = "colour r left 0 right 1;row a of r 0;row s of r 1 seam;next a then a,s;next s then a";
        Check.about("A MEETING: the left 24 rows at most");
        new Run().told(cloth(25, 0, 1, 1) + seam + ";right s").due("meeting(0)", 0).due("meeting(1)", 24).due("meeting(3)", 24)
            .due("ways()", 1).end();
        new Run().told(cloth(26, 0, 1, 1) + seam + ";right s").due("meeting(0)", 1).due("meeting(1)", 26).due("meeting(2)", 0)
            .due("meeting(3)", 2).due("ways()", 0).end();
        Check.about("A MEETING: the right 24 rows at most");
        String other = seam.replace("left 0 right 1", "left 1 right 0");
        new Run().told(cloth(25, 0, 1, 1) + other + ";left s").due("meeting(0)", 0).due("meeting(1)", 24).due("meeting(3)", 0)
            .due("ways()", 1).end();
        new Run().told(cloth(26, 0, 1, 1) + other + ";left s").due("meeting(0)", 1).due("meeting(2)", 1).due("meeting(3)", 2)
            .due("ways()", 0).end();
        Check.about("A MEETING: 48 rows woven, each of them told");
        String unlike = "colour r left 0 right 0;row a of r 3;row b of r 0;row c of r 0;next b then c;next c then b";
        Run run = new Run().told(cloth(48, 0, 1, 1) + unlike).due("meeting(1)", 48);
        for (int i = 0; i < 48; i++) {
            run.due("woven(" + i + ")", 1 + i % 2);
        }
        run.due("weeks(9)", 18).due("at(0, 8)", 1).due("at(1, 8)", 2).times(2, "weeks(9)").due("rows(0)", 24).due("rows(1)", 24);
        run.due("at(0, 23)", 2).due("at(1, 23)", 1).due("meets()", 1).end();
        Check.about("A MEETING: of eight ROWS");
        run = new Run().told(eight(cloth(48, 0, 1, 1), ""), 8).due("meeting(1)", 48).due("woven(47)", 0).due("far(0)", 24).due("sureRows(0)", 255);
        run.due("sureRows(1)", 255).due("weave(0, 7)", 1).due("weave(1, 7)", 1).due("third()", 255).due("meeting(1)", 46).end();
        Check.about("A MEETING: rows that stand count among the 24");
        standing(cloth(25, 0, 1, 1), 0, 12).due("meeting(1)", 13).due("meeting(3)", 1).due("ways()", 13).end();
        standing(cloth(36, 0, 1, 1), 0, 12).due("meeting(1)", 24).due("meeting(3)", 12).due("ways()", 13).end();
    }

    private static void bestKeepsToSeams() {
        Check.about("A MEETING: none behind a seam ROW");
        String text = "colour r left 9 right 9;row a of r 1;row s of r 1 seam;next a then a,s;next s then a,s";
        new Run().told(cloth(5, 0, 1, 1) + text + ";left s;right s").due("meeting(0)", 1).due("meeting(2)", 0).due("ways()", 0).end();
        new Run().told(cloth(5, 0, 1, 1) + text + ";left s").due("meeting(0)", 0).due("meeting(1)", 4).due("meeting(3)", 0)
            .due("woven(0)", 0).end();
        new Run().told(cloth(5, 0, 1, 1) + text + ";right s").due("meeting(0)", 0).due("meeting(1)", 4).due("meeting(3)", 4)
            .due("woven(3)", 0).end();
        Check.about("A MEETING: a seam ROW may be its side's last");
        String last = "colour r left 2 right 2;row s of r 1 seam;row a of r 1;next a then s,a;next s then a";
        new Run().told(cloth(4, 0, 1, 1) + last).due("meeting(1)", 4).due("meeting(3)", 2).due("woven(0)", 1).due("woven(1)", 0)
            .due("woven(2)", 1).due("woven(3)", 1).end();
        String right = "colour r left 9 right 9;colour g left 0 right 1;row t of g 1 seam;row a of r 1;next a then a,t;next t then a";
        wovenAre(new Run().told(cloth(4, 0, 1, 1) + right), 1, 1, 0, 1, 1);
        Check.about("A MEETING: a seam ROW of another number than what may end the left's");
        String ends = "colour r left 9 right 9;row a of r 1;row b of r 1;row t of r 1 seam;next a then a,b;next b then a,b,t";
        wovenAre(new Run().told(cloth(4, 0, 1, 1) + ends + ";right t"), 3, 0, 0, 1);
        Check.about("A MEETING: none behind a seam ROW, whatever might have been woven ahead of it");
        new Run().told(cloth(25, 0, 1, 1) + "colour r left 0 right 0;row a of r 0;row s of r 0 seam;next a then a;next s then a" + side("left", 12)
            + side("right", 1)).due("meeting(0)", 0).due("weave(1, 1)", 1).due("meeting(0)", 1).due("meeting(2)", 0).end();
        Check.about("A MEETING: both weave a seam ROW at last");
        String both = "colour r left 9 right 9;row a of r 1;row s of r 1 seam;row t of r 1 seam;next a then a,s;next s then t;next t then a";
        new Run().told(cloth(6, 0, 1, 1) + both + ";left a,a;right a,a").due("meeting(1)", 2).due("ways()", 4).end();
    }

    private static void bestInItsOrder() {
        Check.about("BEST: fewest ripped, though more is woven");
        String text = "colour r left 9 right 9;row a of r 1;row b of r 1;row c of r 1;next a then b;next b then b,c;next c then c";
        new Run().told(cloth(6, 0, 1, 1) + text + ";left a,b;right c,c").due("meeting(0)", 0).due("meeting(1)", 2).due("meeting(3)", 0)
            .due("woven(0)", 1).due("woven(1)", 1).end();
        Check.about("BEST: then fewest woven, though the left rips");
        standing(cloth(6, 0, 2, 1), 3, 2).due("meeting(0)", 1).due("meeting(1)", 0).due("meeting(2)", 1).end();
        Check.about("BEST: then fewest ripped by the left");
        standing(cloth(6, 0, 1, 1), 4, 4).due("meeting(0)", 2).due("meeting(2)", 0).due("meeting(1)", 0).end();
        standing(cloth(6, 0, 1, 1), 6, 2).due("meeting(0)", 2).due("meeting(2)", 1).end();
        standing(cloth(6, 0, 1, 1), 7, 1).due("meeting(0)", 2).due("meeting(2)", 2).end();
        Check.about("BEST: then fewest woven by the left");
        standing(cloth(6, 0, 1, 1), 1, 1).due("meeting(1)", 4).due("meeting(3)", 0).end();
        standing(cloth(6, 0, 1, 1), 0, 1).due("meeting(1)", 5).due("meeting(3)", 1).end();
        standing(cloth(12, 0, 3, 1), 0, 1).due("meeting(1)", 5).due("meeting(3)", 3).end();
        Check.about("BEST: then the first by numbers of ROWS woven, from left to right");
        String any = "colour r left 9 right 9;row a of r 1;row b of r 1;row c of r 1;next a then b,c;next b then a,c;next c then a,b";
        new Run().told(cloth(6, 0, 1, 1) + any + ";left c;right c").due("meeting(3)", 0).due("woven(0)", 0).due("woven(1)", 1)
            .due("woven(2)", 0).due("woven(3)", 1).end();
        new Run().told(cloth(6, 0, 1, 1) + any + ";left c;right a").due("woven(0)", 0).due("woven(1)", 1).due("woven(2)", 0).due("woven(3)", 1)
            .end();
        new Run().told(cloth(6, 0, 1, 1) + any + ";left a;right b").due("woven(0)", 1).due("woven(1)", 0).due("woven(2)", 1).due("woven(3)", 0)
            .end();
        new Run().told(cloth(5, 0, 1, 1) + any + ";left c;right b").due("woven(0)", 0).due("woven(1)", 1).due("woven(2)", 0).end();
        new Run().told(cloth(5, 0, 1, 1) + any + ";left c;right a").due("woven(0)", 0).due("woven(1)", 1).due("woven(2)", 2).end();
    }

    // ---- refusals

    private static void meetingIsRefused() {
        Check.about("meeting: 0 .. 3; NONE: 1 (none such)");
        standing(cloth(4, 0, 1, 1), 1, 1).due("meeting(0)", 0).due("meeting(1)", 2).due("meeting(2)", 0).due("meeting(3)", 0)
            .refused(1, "meeting(-1)", "meeting(4)", "meeting(max)", "meeting(min)").end();
        Check.about("meeting: -2 if there is none");
        Run run = standing(cloth(49, 0, 1, 1), 0, 0).due("meeting(0)", -2).due("meeting(1)", -2).due("meeting(2)", -2).due("meeting(3)", -2);
        run.refused(1, "meeting(-1)", "meeting(4)").end();
    }

    private static void wovenIsRefused() {
        Check.about("woven: the i-th; NONE: 1 (i)");
        standing(cloth(4, 0, 1, 1), 1, 1).due("woven(0)", 0).due("woven(1)", 0)
            .refused(1, "woven(2)", "woven(-1)", "woven(max)", "woven(min)", "woven(48)").end();
        standing(cloth(4, 0, 1, 1), 2, 2).due("meeting(1)", 0).refused(1, "woven(0)", "woven(-1)").end();
        standing(cloth(48, 0, 1, 1), 0, 0).due("woven(0)", 0).due("woven(47)", 0).refused(1, "woven(48)").end();
        Check.about("woven: NONE: 6 (there is none)");
        standing(cloth(49, 0, 1, 1), 0, 0).refused(6, "woven(0)", "woven(1)", "woven(max)").refused(1, "woven(-1)", "woven(min)").end();
    }

    private static void takesIsRefused() {
        Check.about("takes: how much of a side's colour; NONE: 1");
        String text = "colour r left 9 right 9;colour g left 9 right 9;row a of r 3;row b of g 2;next a then b;next b then a;left a;right b";
        Run run = new Run().told(cloth(6, 0, 1, 1) + text).due("meeting(1)", 4).due("takes(0, 0)", 0).due("takes(0, 1)", 0);
        run.due("takes(1, 0)", 6).due("takes(1, 1)", 4).refused(1, "takes(-1, 0)", "takes(2, 0)", "takes(0, -1)", "takes(0, 2)");
        run.refused(1, "takes(max, 0)", "takes(0, min)").end();
        Check.about("takes: NONE: 6 (there is none)");
        standing(cloth(49, 0, 1, 1), 0, 0).refused(6, "takes(0, 0)", "takes(1, 0)").refused(1, "takes(2, 0)", "takes(0, 1)", "takes(0, -1)").end();
    }

    private static void far() {
        Check.about("far: how many rows more a side can weave at most; NONE: 1 (side)");
        standing(cloth(4, 0, 9, 9), 0, 12).due("far(0)", 24).due("far(1)", 12).refused(1, "far(-1)", "far(2)", "far(max)", "far(min)").end();
        standing(cloth(4, 0, 9, 9), 12, 0).times(11, "weave(0, 0)").due("far(0)", 1).due("weave(0, 0)", 1).due("far(0)", 0).end();
        Check.about("far: as the STORE lasts");
        for (int store = 0; store <= 9; store++) {
            String text = "colour r left " + store + " right 9;row a of r 3;next a then a";
            new Run().told(cloth(4, 0, 1, 1) + text).due("far(0)", store / 3).due("far(1)", 3).end();
        }
        Check.about("far: up to a seam ROW");
        String seam = "colour r left 9 right 9;row a of r 3;row s of r 0 seam;next a then a,s;next s then a";
        new Run().told(cloth(4, 0, 1, 1) + seam).due("far(0)", 4).due("far(1)", 4).due("weave(0, 1)", 1).due("far(0)", 0).end();
        Check.about("far: one behind the other");
        String line = "colour r left 9 right 9;row a of r 0;row b of r 0;row c of r 0;next a then b;next b then c;left b;right b";
        new Run().told(cloth(4, 0, 1, 1) + line).due("far(0)", 1).due("far(1)", 1).due("weave(0, 2)", 1).due("far(0)", 0).due("rip(1)", 1)
            .due("far(1)", 3).end();
    }

    // ---- ways

    private static void waysAreCounted() {
        Check.about("WAYS: MEETINGS without ripping");
        standing(cloth(4, 0, 1, 1), 2, 2).due("ways()", 1).end();
        standing(cloth(4, 0, 1, 1), 3, 2).due("ways()", 0).end();
        standing(cloth(4, 0, 1, 1), 0, 0).due("ways()", 3).end();
        standing(cloth(4, 1, 1, 1), 0, 0).due("ways()", 7).end();
        standing(cloth(48, 0, 1, 1), 0, 0).due("ways()", 1).end();
        standing(cloth(24, 0, 1, 1), 0, 0).due("ways()", 23).end();
        standing(cloth(25, 0, 1, 1), 0, 0).due("ways()", 24).end();
        standing(cloth(26, 0, 1, 1), 0, 0).due("ways()", 23).end();
        Check.about("WAYS: rows woven by the left, by the right, apart");
        String two = "colour r left 9 right 1;row a of r 1;row b of r 1;next a then a,b;next b then a,b";
        new Run().told(cloth(4, 0, 1, 1) + two).due("ways()", 16).end();
    }

    /** Three rows of each colour, in any order, are all that a side can weave with 9 of both: twenty ways. */
    private static void bothColoursToTheLast() {
        Check.about("A MEETING, WAYS: up to 9 of both colours, by one side");
        String kinds = "row a of r 3;row b of g 3;row z of r 0";
        String[] texts = {kinds + ";next a then a,b,z;next b then a,b,z;right z", kinds + ";next a then a,b;next b then a,b;next z then a,b;left z"};
        for (int side = 0; side < 2; side++) {
            for (int[] s : new int[][] {{9, 9, 20}, {8, 9, 0}, {9, 8, 0}}) {
                String stores = side == 0 ? "colour r left %d right 0;colour g left %d right 0;" : "colour r left 0 right %d;colour g left 0 right %d;";
                Run run = new Run().told(cloth(7, 0, 1, 1) + String.format(stores, s[0], s[1]) + texts[side]).due("ways()", s[2]);
                run.due("far(" + side + ")", s[2] > 0 ? 7 : 6).due("sureRows(" + side + ")", s[2] > 0 ? 3 : 0);
                run.due("meeting(1)", s[2] > 0 ? 6 : -2).due("meeting(3)", s[2] > 0 ? 6 * (1 - side) : -2);
                for (int i = 0; i < 6 && s[2] > 0; i++) {
                    run.due("woven(" + i + ")", i / 3);
                }
                if (s[2] > 0) {
                    run.due("takes(" + side + ", 0)", 9).due("takes(" + side + ", 1)", 9).due("takes(" + (1 - side) + ", 0)", 0);
                }
                run.end();
            }
        }
    }

    /** Two kinds and five that come beside each other by turns: each two rows more come in ten ways. */
    private static String tenths(int leftStore) {
        StringBuilder text = new StringBuilder(cloth(48, 0, 1, 1) + "colour q left " + leftStore + " right 9;row a of q 1;row b of q 0");
        for (char r = 'c'; r <= 'g'; r++) {
            text.append(";row ").append(r).append(" of q 0");
        }
        text.append(";row s of q 0 seam;next a then c,d,e,f,g;next b then c,d,e,f,g");
        for (char r = 'c'; r <= 'g'; r++) {
            text.append(";next ").append(r).append(" then a,b");
        }
        return text.append(";left b,c,b,c,b,c;right c,b,c,b,c,b").toString();
    }

    private static void waysAtMostTold() {
        Check.about("WAYS: 1,000,000,000,000,000,000 at most told");
        new Run().told(tenths(9), 8).due("ways()", MOST_WAYS).end();
        // the left may not weave a at all nine places: 5 to the 9th of its ways are gone
        new Run().told(tenths(8), 8).due("ways()", MOST_WAYS - 1953125L * 1000000000L).end();
        // the left may end with s, too
        String more = tenths(9).replace("next a then c,d", "next a then s,c,d") + ";next s then a";
        new Run().told(more, 8).due("ways()", MOST_WAYS).end();
        new Run().told(more.replace(";next s then a", "").replace("length 48", "length 47"), 8).due("ways()", 0).end();
        Check.about("WAYS: far more are told as so many, not as what is left of a long");
        for (int length = 17; length <= 48; length++) {
            long due = length == 17 ? 16L << 51 : length == 18 ? 17L << 54 : MOST_WAYS;
            new Run().told(eight(cloth(length, 0, 1, 1), ""), 8).due("ways()", due).end();
        }
        new Run().told(eight(cloth(48, 9, 1, 1), ""), 8).due("ways()", MOST_WAYS).end();
        Check.about("WAYS: fewer are told as they are, though twice as many were too many");
        // the right is behind its seam row h, left of which just a comes: 7 to the 21st ways for the 21 rows ahead of that a
        String ended = eight(cloth(23, 0, 1, 1), "h");
        new Run().told(ended, 8).due("ways()", 558545864083284007L).end();
        new Run().told(ended.replace("length 23", "length 22"), 8).due("ways()", 79792266297612001L).end();
        new Run().told(ended.replace("length 23", "length 24"), 8).due("ways()", MOST_WAYS).end();
    }

    /** Eight kinds that may all come beside each other; or, with a seam row that the right has woven, that comes behind a alone. */
    private static String eight(String cloth, String seam) {
        StringBuilder all = new StringBuilder(cloth + "colour q left 0 right 0");
        for (char r = 'a'; r <= 'h'; r++) {
            all.append(";row ").append(r).append(" of q 0").append(seam.equals("" + r) ? " seam" : "");
        }
        for (char r = 'a'; r <= 'h'; r++) {
            all.append(";next ").append(r).append(" then a,b,c,d,e,f,g").append(seam.isEmpty() || r == 'a' ? ",h" : "");
        }
        return all.append(seam.isEmpty() ? "" : ";right " + seam).toString();
    }

    // ---- sure rows

    private static void sureIsRefused() {
        Check.about("sure: NONE: 1");
        standing(cloth(4, 0, 1, 1), 1, 1).due("sure(0, 0)", 1).due("sure(1, 0)", 1).refused(1, "sure(-1, 0)", "sure(2, 0)", "sure(0, -1)")
            .refused(1, "sure(0, 1)", "sure(max, 0)", "sure(0, max)", "sure(min, min)").end();
        Check.about("sure: NONE: 5 (the side may not weave it)");
        String text = cloth(4, 0, 1, 1) + "colour r left 1 right 9;row a of r 1;row b of r 2;row s of r 0 seam;next a then b,s;next s then a";
        Run run = new Run().told(text + ";left a").refused(5, "sure(0, 0)", "sure(0, 1)").times(1, "sure(0, 2)").due("weave(0, 2)", 1);
        run.refused(5, "sure(0, 0)", "sure(0, 2)").due("sureRows(0)", 0).end();
        standing(cloth(48, 0, 1, 1), 12, 12).times(11, "weave(0, 0)").due("sure(0, 0)", 1).due("weave(0, 0)", 1).refused(5, "sure(0, 0)")
            .due("sureRows(0)", 0).due("sureRows(1)", 1).end();
        Check.about("sureRows: NONE: 1 (side)");
        standing(cloth(4, 0, 1, 1), 1, 1).due("sureRows(0)", 1).due("sureRows(1)", 1)
            .refused(1, "sureRows(-1)", "sureRows(2)", "sureRows(max)", "sureRows(min)").end();
    }

    private static void sureIfTheOtherMayNone() {
        Check.about("SURE: if the other may none: there is one now");
        String seam = "colour r left 9 right 9;row a of r 1;row s of r 0 seam;next a then a,s;next s then a";
        new Run().told(cloth(4, 0, 1, 1) + seam + ";left a,a;right s").due("may(1)", 0).due("sureRows(0)", 1).due("sure(0, 1)", 0).end();
        new Run().told(cloth(4, 0, 1, 1) + seam + ";left a,a,a;right s").due("meets()", 1).due("sureRows(0)", 0).end();
        new Run().told(cloth(4, 1, 1, 1) + seam + ";left a,a,a;right s").due("meets()", 1).due("sureRows(0)", 1).end();
        new Run().told(cloth(4, 0, 1, 1) + seam + ";left s;right a,a").due("may(0)", 0).due("sureRows(1)", 1).end();
        Check.about("SURE: the other has 24 rows");
        standing(cloth(26, 0, 1, 1), 1, 12).times(12, "weave(1, 0)").due("may(1)", 0).due("sureRows(0)", 1).end();
        standing(cloth(25, 0, 1, 1), 1, 12).times(12, "weave(1, 0)").due("meets()", 1).due("sureRows(0)", 0).end();
        Check.about("SURE: the other has no colour");
        String none = "colour r left 9 right 1;row a of r 1;next a then a;left a;right a";
        new Run().told(cloth(9, 0, 1, 1) + none).due("may(1)", 0).due("sureRows(0)", 1).end();
        new Run().told(cloth(11, 0, 1, 1) + none).due("may(1)", 0).due("sureRows(0)", 0).end();
        Check.about("SURE: the other may none and has no rows");
        new Run().told(cloth(4, 0, 1, 1) + "colour r left 9 right 0;row a of r 1;next a then a").due("may(1)", 0).due("sureRows(0)", 0).end();
    }

    private static void sureForEachRow() {
        Check.about("SURE: for each ROW that the other then may weave, and that being woven");
        standing(cloth(4, 0, 1, 1), 1, 1).due("sureRows(0)", 1).due("sureRows(1)", 1).end();
        standing(cloth(4, 0, 1, 1), 2, 1).due("sureRows(0)", 0).due("sureRows(1)", 0).end();
        standing(cloth(4, 1, 1, 1), 2, 1).due("sureRows(0)", 1).due("sureRows(1)", 1).end();
        standing(cloth(4, 0, 1, 1), 0, 0).due("sureRows(0)", 1).due("sureRows(1)", 1).end();
        standing(cloth(40, 0, 1, 1), 0, 12).times(11, "weave(1, 0)").due("sureRows(0)", 1).due("sureRows(1)", 1).end();
        standing(cloth(40, 0, 1, 1), 12, 0).times(11, "weave(0, 0)").due("sureRows(0)", 1).due("sureRows(1)", 1).end();
        String text = "colour r left 9 right 9;row a of r 1;row b of r 1;row c of r 1;next a then a,c;next b then b,c;next c then c";
        // a stands left of b by no way, nor b of a, and right of c nothing but c comes
        new Run().told(cloth(6, 0, 1, 1) + text + ";right c").due("may(0)", 7).due("may(1)", 7).due("sureRows(0)", 0).end();
        new Run().told(cloth(6, 0, 1, 1) + text + ";left a;right c").due("sure(0, 0)", 0).due("sure(1, 0)", 0).due("sure(1, 1)", 0)
            .due("sure(1, 2)", 1).due("sureRows(1)", 4).end();
        Check.about("SURE: several ROWS, as bits");
        String any = "colour r left 9 right 9;row a of r 1;row b of r 1;row c of r 1;next a then a,b,c;next b then a,b,c;next c then a,b,c";
        new Run().told(cloth(6, 0, 1, 1) + any).due("sureRows(0)", 7).due("sureRows(1)", 7).end();
        new Run().told(cloth(6, 0, 1, 1) + any.replace("row b of r 1", "row b of r 1 seam")).due("sureRows(0)", 5).due("sureRows(1)", 5).end();
        Check.about("SURE: of either colour what the row takes is gone from the STORE");
        String second = "colour r left 0 right 0;colour g left 2 right 1;row a of r 0;row b of g 2;row c of g 1;row s of r 0 seam;"
            + "next a then b;next b then c;next c then c,s,a;next s then s";
        new Run().told(cloth(5, 0, 1, 1) + second + ";left a;right s").due("may(0)", 2).due("may(1)", 0).due("sureRows(0)", 0).end();
        new Run().told(cloth(4, 0, 1, 1) + second.replace("left 2", "left 3") + ";left a;right s").due("sureRows(0)", 2).end();
        new Run().told(cloth(4, 0, 1, 1) + second.replace("left 2", "left 4") + ";left a;right s").due("sureRows(0)", 2).end();
        Check.about("SURE: what the row takes is gone from the STORE");
        String takes = "colour r left 3 right 9;row a of r 1;row b of r 2;next a then a,b;next b then a,b;left a;right a";
        // three units more then: by one row of each, or not at all when the left has used up what it has
        new Run().told(cloth(9, 0, 1, 2) + takes).due("sure(0, 0)", 1).due("sure(0, 1)", 0).due("sureRows(0)", 1).end();
        new Run().told(cloth(6, 0, 1, 1) + takes.replace("right 9", "right 3")).due("sure(0, 0)", 0).due("sure(0, 1)", 0).end();
    }

    private static void third() {
        Check.about("THIRD: right of the left's last, left of the right's last one");
        String text = cloth(4, 0, 1, 1) + "colour r left 9 right 9;row a of r 1;row b of r 1;row c of r 1;next a then b,c;next b then b;next c then c";
        new Run().told(text + ";left a;right b").due("third()", 2).due("rip(1)", 1).refused(6, "third()").due("weave(1, 2)", 1).due("third()", 4)
            .due("rip(0)", 1).refused(6, "third()").due("weave(0, 1)", 1).due("third()", 0).end();
        Check.about("third: NONE: 6 (a side has no rows)");
        new Run().told(text).refused(6, "third()").due("weave(0, 0)", 1).refused(6, "third()").due("weave(1, 1)", 1).due("third()", 2).end();
        new Run().told(text).due("weave(1, 0)", 1).refused(6, "third()").end();
        Check.about("THIRD: whatever is in STORE, and behind seam ROWS too");
        new Run().told(cloth(4, 0, 1, 1) + "colour r left 0 right 0;row s of r 0 seam;row b of r 3;next s then b,s;next b then s;left s;right s")
            .due("third()", 3).due("may(0)", 0).end();
    }
}
