/** Promises 1 to 18 and 36 to 40: each bound of what is given to a call and of what is kept, and each refusal. */
public final class CallEdgesTest {
    private static final String CLOTH = "cloth length 8 slack 2 left 1 right 1 rate 2;";
    private static final String TEXT = CLOTH + "colour r left 9 right 9;colour g left 5 right 5;row a of r 1;row b of g 2;"
        + "row s of r 0 seam;next a then a,b,s;next b then a,b;next s then a;motif m plain a,b;motif n plain b;left a,b;right a";
    /** Rows that take nothing, so that a side can be filled; b has none beside it, d takes more than there is. */
    private static final String FREE = "cloth length 60 slack 9 left 9 right 9 rate 5;colour r left 2 right 2;row a of r 0;"
        + "row b of r 0;row s of r 0 seam;row d of r 3;next a then a,s,d;next s then a;";

    public static void main(String[] args) {
        newObjectHasNoCloth();
        clothBeginsAnew();
        clothStaysWithAFault();
        faultAndWhere();
        kinds();
        insteadAndSpare();
        rowsAndPlaces();
        colours();
        unitsAndMay();
        weaveIsRefused();
        seamEndsASide();
        ripIsRefused();
        weeksBounds();
        weeksWeaveRateRows();
        twelveActsAreKept();
        threeMarks();
        led();
        sizes();
        troubleOfTheLatestCall();
        Check.end();
    }

    // ---- a new object, cloths

    private static final String[] NEED_A_CLOTH = {"row(0, 0)", "next(0, 0)", "instead(0, 1)", "spare(0)", "rows(0)", "rows(1)",
        "at(0, 0)", "colour(0, 0, 0)", "units()", "may(0)", "may(1)", "weave(0, 0)", "rip(0)", "rip(1)", "weeks(1)", "weeks(0)",
        "weeks(10)", "meets()", "meeting(0)", "meeting(3)", "woven(0)", "takes(0, 0)", "far(0)", "far(1)", "ways()", "sure(0, 0)",
        "sureRows(0)", "sureRows(1)", "third()", "answered(0)", "wrongs()", "mend()", "mendBy()", "seen(0, 0)", "seenAt(0, 0)",
        "orders()", "ahead(0, 0)", "mark()", "back(0)"};

    private static void newObjectHasNoCloth() {
        Check.about("A new object: No CLOTH");
        Run run = new Run().trouble(0).due("fault()", 0).due("where()", -1);
        for (int what = 0; what <= 12; what++) {
            run.due("size(" + what + ")", 0);
        }
        run.due("led(0)", Run.THROWS).due("led(-1)", Run.THROWS).trouble(0).refused(6, "undo()").end();
        for (String call : NEED_A_CLOTH) {
            new Run().refused(1, call).end();
        }
        Check.about("a CLOTH that was refused is none");
        for (String call : NEED_A_CLOTH) {
            new Run().fed("cloth length 3").faulty(14, 4, 13).refused(1, call).refused(6, "undo()").end();
        }
    }

    private static void clothBeginsAnew() {
        Check.about("cloth: no WASTE, no weeks; nothing to undo, no MARKS");
        Run run = new Run().told(TEXT).all(1, "weave(0, 0)", "rip(1)", "rip(0)").due("mark()", 0).times(1, "weeks(9)");
        run.due("colour(0, 0, 2)", 1).due("colour(1, 0, 2)", 1).due("size(9)", 9).due("size(10)", 4).due("size(11)", 1);
        run.told(TEXT, 3).due("colour(0, 0, 2)", 0).due("colour(1, 0, 2)", 0).due("size(9)", 0).due("size(10)", 0).due("size(11)", 0);
        run.refused(6, "undo()").refused(1, "back(0)").due("rows(0)", 2).due("rows(1)", 1).due("colour(0, 0, 0)", 8);
        run.due("mark()", 0).end();
        Check.about("cloth: nothing of former ones is left, nor of one with a fault");
        String rich = TEXT + ";answers a b;note left 0 before right 0;note right 1 before left 1";
        nothingIsLeft(new Run().told(rich));
        nothingIsLeft(new Run().told(rich).told(rich));
        nothingIsLeft(new Run().fed(rich + " ?").faulty(rich.length() + 2, 1, rich.length() + 1));
        nothingIsLeft(new Run().told(rich).all(1, "rip(0)", "rip(1)").times(1, "weeks(9)").told(rich));
        new Run().told(rich, 3).told(rich, 3).told(rich, 3).due("size(2)", 2).due("size(3)", 2).due("rows(0)", 2).end();
    }

    private static void nothingIsLeft(Run run) {
        run.told(CLOTH + "colour q left 1 right 2;row x of q 1;row y of q 1;row z of q 0", 3).due("size(1)", 1).due("size(2)", 0);
        run.due("size(3)", 0).due("size(9)", 0).due("rows(0)", 0).due("rows(1)", 0).due("units()", 0).due("may(0)", 7);
        for (int r = 0; r < 3; r++) {
            run.due("row(" + r + ", 2)", 0).due("row(" + r + ", 3)", r);
            for (int right = 0; right < 3; right++) {
                run.due("next(" + r + ", " + right + ")", 0);
            }
        }
        for (int side = 0; side < 2; side++) {
            run.due("colour(" + side + ", 0, 0)", 1 + side).due("colour(" + side + ", 0, 1)", 0).due("colour(" + side + ", 0, 2)", 0);
        }
        run.due("weave(0, 2)", 1).due("weave(1, 2)", 1).due("orders()", 2).due("may(0)", 0).due("may(1)", 0).refused(1, "colour(0, 1, 0)", "seen(0, 0)").end();
    }

    private static void clothStaysWithAFault() {
        Check.about("cloth: 4 (the CLOTH stays)");
        Run run = new Run().told(TEXT).all(1, "weave(0, 1)", "rip(1)").due("mark()", 0).times(1, "weeks(1)");
        int rows = 3;
        String spoilt = CLOTH + "colour q left 1 right 2;row x of q 1;left x;right ?";
        run.fed(spoilt).faulty(spoilt.length(), 1, spoilt.length() - 1);
        run.fed("?").faulty(1, 1, 0).faulty(0, 1, 0);
        run.due("row(2, 2)", 1).due("next(0, 2)", 1).due("seen(1, 0)", 2).due("meeting(0)", 0);
        run.due("undo()", 1).due("rows(0)", rows).due("undo()", 1).due("rows(1)", 1).due("back(0)", 1).due("rows(1)", 0).end();
        Check.about("cloth: 2 (THE TAPE stays)");
        run = new Run().told(TEXT).fed(FREE).refused(2, "cloth(-1)", "cloth(161)", "cloth(min)", "cloth(max)").due("size(12)", 160);
        run.due("cloth(" + (FREE.length() - 1) + ")", 4).end();
    }

    private static void faultAndWhere() {
        Check.about("fault: of the latest cloth() not refused by 2; 0 without one");
        Run run = new Run().due("fault()", 0).refused(2, "cloth(1)").due("fault()", 0).due("where()", -1);
        run.fed("cloth length 3").faulty(14, 4, 13).refused(2, "cloth(-1)", "cloth(1)").due("fault()", 4).due("where()", -1);
        run.told(TEXT, 3).due("fault()", 0).due("where()", -1).faulty(0, 1, 0);
        run.told(TEXT, 3).due("fault()", 0).end();
        Check.about("where: if the latest call that may be refused was by 4");
        for (String between : new String[] {"units()", "undo()", "weave(0, 0)", "row(9, 9)", "ways()", "back(0)", "cloth(1)", "mark()"}) {
            run = new Run().fed("  ?").faulty(3, 1, 2);
            run.fed("  ?").due("cloth(3)", -1, 4).due("where()", 2).due("trouble()", 4).due("fault()", 1).due("size(0)", 0);
            run.due("size(99)", -1).due("led(0)", Run.THROWS).due("feed(0, 0, 0, 0, 0)", 20).due("where()", 2);
            if (between.startsWith("cloth")) {
                run.due("cloth(0)", -1, 4).due("where()", 0);
            }
            run.due(between, Run.refusal(between), between.startsWith("cloth") ? 2 : between.startsWith("undo") ? 6 : 1);
            run.due("where()", -1).due("fault()", 1).end();
        }
    }

    // ---- kinds of rows

    private static void kinds() {
        Check.about("row: 0 its colour, 1 how much it takes, 2 seam, 3 its PARTNER; NONE: 1");
        Run run = new Run().told(TEXT);
        run.due("row(0, 0)", 0).due("row(1, 0)", 1).due("row(1, 1)", 2).due("row(2, 2)", 1).due("row(2, 3)", 2).due("row(0, 2)", 0);
        run.refused(1, "row(-1, 0)", "row(3, 0)", "row(8, 0)", "row(max, 0)", "row(min, 0)");
        run.refused(1, "row(0, -1)", "row(0, 4)", "row(0, max)", "row(0, min)", "row(-1, 4)").end();
        Check.about("next: NONE: 1");
        run = new Run().told(TEXT).due("next(0, 2)", 1).due("next(2, 0)", 1).due("next(2, 2)", 0).due("next(1, 2)", 0);
        run.refused(1, "next(-1, 0)", "next(3, 0)", "next(0, -1)", "next(0, 3)", "next(max, 0)", "next(0, min)").end();
        Check.about("next: a number beyond a bit's stands for no ROW");
        new Run().told(TEXT).refused(1, "next(32, 0)", "next(0, 32)", "next(0, 33)", "sure(0, 32)", "weave(0, 32)", "spare(32)").end();
    }

    private static void insteadAndSpare() {
        String text = CLOTH + "colour r left 1 right 1;colour g left 1 right 1;row a of r 1;row b of r 1;row c of g 1;row s of r 0 seam;"
            + "row t of g 0 seam;";
        Check.about("instead: NONE: 1 (unlike)");
        Run run = new Run().told(text + "next a then a").due("instead(0, 1)", 1).due("instead(1, 0)", 0).due("instead(4, 3)", 1);
        run.refused(1, "instead(0, 0)", "instead(4, 4)", "instead(-1, 0)", "instead(5, 0)", "instead(0, -1)", "instead(0, 5)");
        run.refused(1, "instead(5, 5)", "instead(-1, -1)", "instead(max, min)").end();
        Check.about("INSTEAD: no seam ROW if it is none, a seam ROW if it is one");
        run = new Run().told(text + "next a then b").due("instead(3, 2)", 0).due("instead(2, 3)", 0).due("instead(0, 3)", 0);
        run.due("instead(3, 4)", 1).due("instead(2, 1)", 0).due("instead(1, 2)", 1).end();
        Check.about("INSTEAD: may come right of all that it may");
        new Run().told(text + "next a then b;next c then b").due("instead(0, 1)", 0).due("instead(2, 1)", 0).due("instead(0, 2)", 1).end();
        new Run().told(text + "next a then b,c;next b then b").due("instead(2, 1)", 0).due("instead(1, 2)", 1).end();
        new Run().told(text + "next a then s,t;next b then s").due("instead(4, 3)", 0).due("instead(3, 4)", 1).end();
        Check.about("INSTEAD: has all right of it that it has");
        new Run().told(text + "next a then b;next c then b,a").due("instead(0, 2)", 0).end();
        new Run().told(text + "next a then b,s;next c then b").due("instead(0, 2)", 1).due("instead(2, 0)", 0).end();
        new Run().told(text + "next s then a;next t then a,b").due("instead(4, 3)", 1).due("instead(3, 4)", 0).end();
        Check.about("spare: the first ROW INSTEAD of one that is of another colour; -2; NONE: 1");
        run = new Run().told(text + "next a then a").due("spare(0)", -2).due("spare(1)", 2).due("spare(2)", 0).due("spare(3)", 4);
        run.due("spare(4)", 3).refused(1, "spare(-1)", "spare(5)", "spare(max)", "spare(min)").end();
        new Run().told(text + "next a then b;next b then b").due("spare(2)", 0).due("spare(0)", -2).end();
        new Run().told(CLOTH + "colour r left 1 right 1;row a of r 1;row b of r 1").due("instead(0, 1)", 1).due("spare(0)", -2).end();
        Check.about("spare: of eight ROWS, and of two behind a CLOTH that had eight");
        String eight = CLOTH + "colour r left 1 right 1;colour g left 1 right 1;row a of r 1;row b of r 1;row c of r 1;row d of r 1;row e of r 1;"
            + "row f of r 1;row q of r 1;row h of ";
        for (String colour : new String[] {"r", "g"}) {
            String last = eight + colour + " 1";
            run = new Run().told(last, 8).due("spare(0)", colour.equals("r") ? -2 : 7).due("spare(7)", colour.equals("r") ? -2 : 0);
            run.told(last, 8).told(CLOTH + "colour r left 1 right 1;row a of r 1;row b of r 1", 2).due("spare(0)", -2).due("spare(1)", -2).end();
        }
    }

    // ---- what is woven

    private static void rowsAndPlaces() {
        Check.about("rows: how many a side has; NONE: 1 (side)");
        Run run = new Run().told(TEXT).due("rows(0)", 2).due("rows(1)", 1);
        run.refused(1, "rows(-1)", "rows(2)", "rows(max)", "rows(min)").end();
        new Run().told(CLOTH + "colour r left 1 right 1;row a of r 1").due("rows(0)", 0).due("rows(1)", 0).end();
        Check.about("at: the ROW at a place of a side, from its end; NONE: 1");
        run = new Run().told(TEXT).due("at(0, 0)", 0).due("at(0, 1)", 1).due("at(1, 0)", 0);
        run.refused(1, "at(0, -1)", "at(0, 2)", "at(1, 1)", "at(2, 0)", "at(-1, 0)", "at(0, 24)", "at(0, max)", "at(1, min)").end();
        new Run().told(CLOTH + "colour r left 1 right 1;row a of r 1").refused(1, "at(0, 0)", "at(1, 0)").end();
        Check.about("A side has 24 rows at most");
        for (int side = 0; side < 2; side++) {
            String weave = "weave(" + side + ", 0)";
            run = new Run().told(FREE + (side == 0 ? "left" : "right") + " a" + ",a".repeat(11)).times(11, weave);
            run.due("rows(" + side + ")", 23).refused(1, "at(" + side + ", 23)").due("far(" + side + ")", 1).due(weave, 1);
            run.due("rows(" + side + ")", 24).due("at(" + side + ", 23)", 0).refused(1, "at(" + side + ", 24)").refused(3, weave);
            run.due("may(" + side + ")", 0).due("far(" + side + ")", 0).due("rows(" + (1 - side) + ")", 0).end();
        }
        Check.about("A side has 24 rows: a ripped one makes room again");
        run = new Run().told(FREE + "left a" + ",a".repeat(11) + ";right a" + ",a".repeat(11)).times(12, "weave(0, 0)");
        run.refused(3, "weave(0, 0)").times(12, "weave(1, 0)").refused(3, "weave(1, 0)").due("units()", 432);
        run.due("rip(0)", 1).due("weave(0, 2)", 1).due("at(0, 23)", 2).due("at(1, 23)", 0).refused(3, "weave(0, 0)").end();
    }

    private static void colours() {
        Check.about("colour: 0 in STORE, 1 in the cloth, 2 WASTE; NONE: 1");
        Run run = new Run().told(TEXT).due("colour(0, 0, 0)", 8).due("colour(0, 0, 1)", 1).due("colour(0, 0, 2)", 0);
        run.due("colour(0, 1, 0)", 3).due("colour(0, 1, 1)", 2).due("colour(1, 1, 0)", 5).due("colour(1, 1, 1)", 0);
        run.refused(1, "colour(-1, 0, 0)", "colour(2, 0, 0)", "colour(0, -1, 0)", "colour(0, 2, 0)");
        run.refused(1, "colour(0, 0, -1)", "colour(0, 0, 3)", "colour(max, 0, 0)", "colour(0, min, 0)", "colour(0, 0, max)").end();
        Check.about("colour: with one colour there is no second one");
        new Run().told(FREE + "left a").due("colour(0, 0, 2)", 0).refused(1, "colour(0, 1, 0)", "takes(0, 1)").end();
        Check.about("ripped, the latest row of a side is gone, its colour with it: WASTE");
        run = new Run().told(TEXT).due("rip(0)", 1).due("colour(0, 1, 0)", 3).due("colour(0, 1, 1)", 0).due("colour(0, 1, 2)", 2);
        run.due("colour(0, 0, 2)", 0).due("colour(1, 1, 2)", 0).due("weave(0, 1)", 1).due("colour(0, 1, 0)", 1);
        run.due("rip(0)", 1).due("colour(0, 1, 2)", 4).refused(6, "weave(0, 1)").due("rip(0)", 1).due("colour(0, 0, 2)", 1).end();
    }

    private static void unitsAndMay() {
        Check.about("UNITS: rows of the left times its hand, and of the right times its");
        new Run().told(CLOTH + "colour r left 1 right 1;row a of r 1").due("units()", 0).end();
        Run run = new Run().told(CLOTH.replace("left 1 right 1", "left 2 right 9") + "colour r left 9 right 9;row a of r 1;next a then a");
        run.due("weave(0, 0)", 1).due("units()", 2).due("weave(1, 0)", 1).due("units()", 11).due("weave(1, 0)", 1).due("units()", 20);
        run.due("rip(0)", 1).due("units()", 18).end();
        Check.about("MAY, as bits; NONE: 1 (side)");
        run = new Run().told(TEXT).due("may(0)", 3).due("may(1)", 7).refused(1, "may(-1)", "may(2)", "may(max)", "may(min)");
        run.due("weave(0, 0)", 1).due("may(0)", 7).due("weave(1, 2)", 1).due("may(1)", 0).end();
        Check.about("MAY: the first ones may be any, if there is colour");
        StringBuilder eight = new StringBuilder(CLOTH + "colour r left 3 right 0");
        for (char r = 'a'; r <= 'h'; r++) {
            eight.append(";row ").append(r).append(" of r ").append(r == 'h' ? 0 : 3).append(r == 'c' ? " seam" : "");
        }
        new Run().told(eight.toString(), 8).due("may(0)", 255).due("may(1)", 128).due("weave(0, 7)", 1).due("may(0)", 0).end();
    }

    private static void weaveIsRefused() {
        Check.about("weave: false: 1");
        Run run = new Run().told(TEXT).refused(1, "weave(-1, 0)", "weave(2, 0)", "weave(0, -1)", "weave(0, 3)");
        run.refused(1, "weave(max, 0)", "weave(min, 0)", "weave(0, max)", "weave(0, min)").due("size(10)", 0).end();
        Check.about("weave: false: 5 (it may not come)");
        run = new Run().told(TEXT).refused(5, "weave(0, 2)").due("weave(0, 1)", 1).refused(5, "weave(0, 2)").due("weave(0, 0)", 1);
        run.due("weave(0, 2)", 1).end();
        Check.about("the left's next row stands right of its last one, the right's left of its last one");
        String line = CLOTH + "colour r left 9 right 9;row a of r 1;row b of r 1;row c of r 1;next a then b;next b then c;left b;right b";
        run = new Run().told(line).refused(5, "weave(0, 0)", "weave(0, 1)", "weave(1, 1)", "weave(1, 2)");
        run.due("weave(0, 2)", 1).due("weave(1, 0)", 1).refused(5, "weave(0, 0)", "weave(1, 2)").end();
        Check.about("weave: false: 6 (not colour enough)");
        String two = CLOTH + "colour r left 3 right 2;row a of r 2;row b of r 1;row d of r 0;next a then a,b,d;next b then a,b;next d then a,d";
        run = new Run().told(two).due("weave(0, 0)", 1).refused(6, "weave(0, 0)").due("may(0)", 6).due("weave(0, 1)", 1);
        run.refused(6, "weave(0, 0)", "weave(0, 1)").due("may(0)", 0).due("colour(0, 0, 0)", 0);
        run.due("weave(1, 0)", 1).refused(6, "weave(1, 0)", "weave(1, 1)").due("may(1)", 4).due("weave(1, 2)", 1).end();
        Check.about("weave: of several the first that is told: 3, then 5, then 6");
        run = new Run().told(FREE + "left a" + ",a".repeat(11)).refused(5, "weave(0, 1)").refused(6, "weave(0, 3)");
        run.times(12, "weave(0, 0)").refused(3, "weave(0, 0)", "weave(0, 1)", "weave(0, 3)").refused(1, "weave(0, 4)", "weave(2, 0)").end();
        run = new Run().told(FREE + "left b").refused(5, "weave(0, 3)").due("may(0)", 0);
        run.refused(6, "weave(1, 3)").end();
    }

    private static void seamEndsASide() {
        Check.about("Behind a seam ROW its weaver weaves no more: 5");
        Run run = new Run().told(TEXT).due("weave(1, 2)", 1).refused(5, "weave(1, 0)", "weave(1, 1)", "weave(1, 2)").due("far(1)", 0);
        run.due("may(1)", 0).due("weave(0, 0)", 1).due("weave(0, 2)", 1).refused(5, "weave(0, 0)").due("far(0)", 0).due("may(0)", 0);
        run.due("rip(0)", 1).due("may(0)", 7).due("rip(1)", 1).due("may(1)", 7).due("weave(1, 0)", 1).end();
        new Run().told(FREE + "left s;right s").refused(5, "weave(0, 0)", "weave(1, 0)").due("next(2, 0)", 1).end();
    }

    private static void ripIsRefused() {
        Check.about("rip: false: 1; 6 (it has none)");
        Run run = new Run().told(TEXT).refused(1, "rip(-1)", "rip(2)", "rip(max)", "rip(min)").due("rip(1)", 1).refused(6, "rip(1)");
        run.due("rows(1)", 0).due("rip(0)", 1).due("rip(0)", 1).refused(6, "rip(0)").due("size(10)", 3).due("units()", 0);
        run.due("may(0)", 7).due("weave(0, 2)", 1).end();
    }

    private static void weeksBounds() {
        Check.about("weeks: 1 .. 9; NONE: 2");
        Run run = new Run().told(TEXT).refused(2, "weeks(0)", "weeks(10)", "weeks(-1)", "weeks(max)", "weeks(min)");
        run.due("size(9)", 0).due("size(10)", 0).times(1, "weeks(1)").due("size(9)", 1).times(1, "weeks(9)").due("size(9)", 10);
        run.due("size(10)", 2).due("undo()", 1).due("size(9)", 1).due("undo()", 1).due("size(9)", 0).refused(6, "undo()").end();
        Check.about("weeks: they are counted though nothing is woven");
        run = new Run().told(CLOTH + "colour r left 1 right 1;row a of r 1");
        for (int i = 1; i <= 13; i++) {
            run.due("weeks(9)", 0).due("size(9)", 9 * i);
        }
        run.due("size(10)", 12).due("rows(0)", 0).end();
    }

    private static void weeksWeaveRateRows() {
        String text = "colour r left 9 right 9;row a of r 1;next a then a";
        for (int rate = 1; rate <= 5; rate++) {
            Check.about("A WEEK: the left weaves rate rows, then the right: rate " + rate);
            Run run = new Run().told("cloth length 18 slack 0 left 1 right 1 rate " + rate + ";" + text);
            run.due("weeks(1)", 2 * rate).due("rows(0)", rate).due("rows(1)", rate).due("weeks(9)", 18 - 2 * rate);
            run.due("rows(0)", 9).due("rows(1)", 9).due("meets()", 1).due("weeks(9)", 0).end();
        }
        Check.about("A WEEK: if BEST has a row for it; else nothing");
        Run run = new Run().told("cloth length 7 slack 0 left 1 right 1 rate 3;" + text.replace("left 9", "left 2"));
        run.due("meeting(3)", 1).due("weeks(1)", 4).due("rows(0)", 1).due("rows(1)", 3).due("weeks(1)", 3).due("rows(0)", 1);
        run.due("rows(1)", 6).due("meets()", 1).end();
        Check.about("A WEEK: if BEST rips none; else nothing");
        run = new Run().told("cloth length 6 slack 0 left 2 right 1 rate 3;" + text + ";left a,a;right a,a,a");
        run.due("meeting(0)", 1).due("weeks(9)", 0).due("rows(0)", 2).due("rows(1)", 3).due("rip(1)", 1).due("meets()", 1);
        run.due("weeks(1)", 0).end();
        String apart = "colour r left 9 right 9;row a of r 1;row b of r 1;row c of r 1;next a then a;next b then b;next c then a,b,c";
        // one row by the left, one by the right, one by each: then more would be woven
        run = new Run().told("cloth length 6 slack 0 left 1 right 1 rate 5;" + apart + ";left c,a;right b,b");
        run.due("meeting(0)", 1).due("meeting(2)", 1).due("meeting(1)", 3).due("weeks(9)", 0).due("rows(0)", 2).due("rows(1)", 2).end();
        run = new Run().told("cloth length 6 slack 0 left 1 right 1 rate 5;" + apart + ";left c,a,a;right b");
        run.due("meeting(0)", 1).due("meeting(2)", 0).due("meeting(1)", 3).due("weeks(9)", 0).due("rows(0)", 3).due("rows(1)", 1).end();
        String seams = "colour r left 9 right 9;row a of r 1;row s of r 1 seam;next a then a,s;next s then a;left a,s;right a,s";
        run = new Run().told("cloth length 5 slack 0 left 1 right 1 rate 5;" + seams);
        run.due("meeting(0)", 1).due("weeks(9)", 0).due("rows(0)", 2).due("rows(1)", 2).end();
        String both = "colour r left 9 right 9;row a of r 1;row s of r 1 seam;next a then a;left s;right s";
        run = new Run().told("cloth length 5 slack 0 left 1 right 1 rate 5;" + both);
        run.due("meeting(0)", 2).due("meeting(2)", 1).due("weeks(9)", 0).due("rows(0)", 1).due("rows(1)", 1).end();
        Check.about("A WEEK: each row as BEST tells its side");
        String path = "cloth length 6 slack 0 left 1 right 1 rate 1;colour r left 3 right 3;row a of r 1;row b of r 1;row c of r 1;"
            + "row d of r 1;row e of r 1;row f of r 1;next a then b;next b then c;next c then d;next d then e;next e then f";
        run = new Run().told(path);
        for (int week = 0; week < 3; week++) {
            run.due("weeks(1)", 2).due("at(0, " + week + ")", week).due("at(1, " + week + ")", 5 - week);
        }
        run.due("meets()", 1).end();
        pathIsWoven(new Run().told(path).due("weeks(3)", 6));
        pathIsWoven(new Run().told(path.replace("rate 1", "rate 3")).due("weeks(1)", 6));
        pathIsWoven(new Run().told(path.replace("rate 1", "rate 5")).due("weeks(9)", 6));
        String five = path.replace("length 6", "length 5").replace(";next e then f", "").replace("rate 1", "rate 5");
        run = new Run().told(five.replace("left 3 right 3", "left 9 right 1")).due("weeks(1)", 5).due("rows(0)", 4).due("at(1, 0)", 4);
        run.due("at(0, 0)", 0).due("at(0, 3)", 3).due("meets()", 1).end();
        run = new Run().told(five.replace("left 3 right 3", "left 1 right 9")).due("weeks(1)", 5).due("rows(1)", 4).due("at(0, 0)", 0);
        run.due("at(1, 0)", 4).due("at(1, 3)", 1).due("meets()", 1).end();
        Check.about("A WEEK: nothing if there is no MEETING");
        run = new Run().told("cloth length 5 slack 0 left 2 right 1 rate 5;colour r left 9 right 9;row a of r 1;row b of r 1;next a then b");
        run.due("meeting(0)", -2).due("weeks(1)", 0).due("rows(0)", 0).due("rows(1)", 0).end();
        run = new Run().told("cloth length 19 slack 0 left 1 right 1 rate 3;" + text).due("meeting(0)", -2).due("weeks(9)", 0);
        run.due("rows(0)", 0).due("rows(1)", 0).due("size(9)", 9).end();
        Check.about("A WEEK: who weaves the seam alone");
        run = new Run().told("cloth length 4 slack 0 left 1 right 1 rate 5;colour r left 9 right 9;row a of r 1;row s of r 1 seam;"
            + "next a then a;next s then a;left s");
        run.due("weeks(1)", 3).due("rows(0)", 1).due("rows(1)", 3).due("meets()", 1).end();
    }

    private static void pathIsWoven(Run run) {
        for (int place = 0; place < 3; place++) {
            run.due("at(0, " + place + ")", place).due("at(1, " + place + ")", 5 - place);
        }
        run.due("meets()", 1).end();
    }

    // ---- undoing, marks

    private static void twelveActsAreKept() {
        Check.about("UNDO: the latest (of up to 12 kept)");
        Run run = new Run().told(FREE + "left a").refused(6, "undo()").times(12, "weave(0, 0)").due("size(10)", 12).due("rows(0)", 13);
        for (int i = 12; i >= 1; i--) {
            run.due("undo()", 1).due("rows(0)", i).due("size(10)", i - 1);
        }
        run.refused(6, "undo()").end();
        Check.about("UNDO: behind 13 ACTS the first stays");
        run = new Run().told(FREE + "left a").times(13, "weave(0, 0)").due("size(10)", 12).due("rows(0)", 14);
        for (int i = 13; i >= 2; i--) {
            run.due("undo()", 1).due("rows(0)", i);
        }
        run.refused(6, "undo()").due("rows(0)", 2).due("size(10)", 0).due("weave(0, 0)", 1).due("size(10)", 1).due("undo()", 1).end();
        Check.about("ACTS: WEAVE, RIP, a WEEK; what is refused is none");
        run = new Run().told(TEXT).refused(5, "weave(0, 2)").refused(1, "rip(2)").refused(2, "weeks(0)").refused(6, "undo()");
        run.due("weave(0, 0)", 1).due("size(10)", 1).due("rip(0)", 1).due("size(10)", 2).times(1, "weeks(9)").due("size(10)", 3).end();
        actsAreUndoneWhole();
    }

    private static void actsAreUndoneWhole() {
        Check.about("UNDO: a row ripped comes back, with its colour");
        Run run = new Run().told(TEXT).due("rip(0)", 1).due("undo()", 1).due("rows(0)", 2).due("at(0, 1)", 1).due("colour(0, 1, 2)", 0);
        run.due("colour(0, 1, 0)", 3).due("colour(0, 1, 1)", 2).end();
        Check.about("UNDO: all rows and colours of both sides are as they were");
        run = filled().times(1, "weeks(1)").due("undo()", 1);
        isFilled(run).end();
        run = filled();
        for (int side = 0; side < 2; side++) {
            run.times(3, "rip(" + side + ")").times(3, "weave(" + side + ", 1)");
        }
        isFilled(run.times(12, "undo()")).end();
        Check.about("UNDO: of weeks(n) all n WEEKS");
        run = new Run().told("cloth length 18 slack 0 left 1 right 1 rate 1;colour r left 9 right 9;row a of r 1;next a then a");
        run.due("weeks(2)", 4).due("weeks(3)", 6).due("size(9)", 5).due("size(10)", 2).due("undo()", 1).due("size(9)", 2);
        run.due("rows(0)", 2).due("rows(1)", 2).due("undo()", 1).due("rows(0)", 0).due("size(9)", 0).due("colour(1, 0, 0)", 9).end();
        Check.about("UNDO itself is no ACT, a MARK neither");
        run = new Run().told(TEXT).all(1, "weave(0, 0)", "weave(0, 0)", "undo()").due("mark()", 0).due("size(10)", 1).due("undo()", 1);
        run.due("rows(0)", 2).refused(6, "undo()").due("size(11)", 1).end();
    }

    private static final String PAIR = "cloth length 60 slack 9 left 9 right 9 rate 5;colour r left 9 right 9;colour g left 9 right 9;"
        + "row a of r 1;row b of g 1;next a then a,b;next b then a,b;left a,b,a,b,a,a;right b,b,a,b,a,b";

    private static Run filled() {
        return new Run().told(PAIR);
    }

    private static Run isFilled(Run run) {
        int[][] rows = {{0, 1, 0, 1, 0, 0}, {1, 1, 0, 1, 0, 1}};
        for (int side = 0; side < 2; side++) {
            run.due("rows(" + side + ")", 6);
            for (int place = 0; place < 6; place++) {
                run.due("at(" + side + ", " + place + ")", rows[side][place]);
            }
            for (int colour = 0; colour < 2; colour++) {
                int used = side == colour ? 4 : 2;
                run.due("colour(" + side + ", " + colour + ", 0)", 9 - used).due("colour(" + side + ", " + colour + ", 1)", used);
                run.due("colour(" + side + ", " + colour + ", 2)", 0);
            }
        }
        return run.due("size(9)", 0);
    }

    private static void threeMarks() {
        Check.about("MARKS: up to 3; mark: 3");
        Run run = new Run().told(TEXT).due("size(11)", 0).refused(1, "back(0)");
        for (int i = 0; i < 3; i++) {
            run.refused(1, "back(" + i + ")").due("mark()", i).due("size(11)", i + 1).due("weave(0, 0)", 1);
        }
        run.refused(3, "mark()").refused(1, "back(3)", "back(-1)", "back(max)", "back(min)").due("size(11)", 3).end();
        Check.about("MARKS: gone back to, nothing can be undone; all MARKS stay");
        run = new Run().told(TEXT);
        for (int i = 0; i < 3; i++) {
            run.due("mark()", i).due("weave(0, 0)", 1);
        }
        run.due("size(10)", 3).due("back(2)", 1).due("rows(0)", 4).due("size(10)", 0).refused(6, "undo()").refused(3, "mark()");
        run.due("back(0)", 1).due("rows(0)", 2).due("back(1)", 1).due("rows(0)", 3).due("back(2)", 1).due("rows(0)", 4).due("size(11)", 3);
        run.end();
        Check.about("MARKS: each keeps all rows, STORES, WASTE, weeks");
        run = new Run().told(TEXT).due("rip(0)", 1).times(1, "weeks(2)").times(1, "rip(1)").due("mark()", 0);
        String[] kept = {"rows(0)", "rows(1)", "colour(0, 0, 0)", "colour(0, 1, 2)", "colour(1, 0, 2)", "colour(1, 0, 0)", "size(9)", "units()"};
        long[] were = run.answers(kept);
        run.times(1, "weeks(3)").times(1, "rip(0)").times(1, "rip(1)").due("size(9)", 5).due("back(0)", 1);
        for (int i = 0; i < kept.length; i++) {
            run.due(kept[i], were[i]);
        }
        run.due("size(9)", 2).due("colour(0, 1, 2)", 2).end();
        run = filled().due("mark()", 0);
        for (int side = 0; side < 2; side++) {
            run.times(6, "rip(" + side + ")").times(3, "weave(" + side + ", 1)").times(3, "weave(" + side + ", 0)");
        }
        isFilled(run.times(1, "weeks(1)").due("back(0)", 1)).end();
        Check.about("MARKS: at the 24th row");
        run = new Run().told(FREE + "left a" + ",a".repeat(11) + ";right a" + ",a".repeat(11)).times(11, "weave(0, 0)").times(11, "weave(1, 0)");
        run.due("weave(0, 2)", 1).due("weave(1, 2)", 1).due("mark()", 0).due("rip(0)", 1).due("rip(1)", 1).due("weave(0, 0)", 1);
        run.due("weave(1, 0)", 1).due("undo()", 1).due("undo()", 1).due("undo()", 1).due("at(0, 23)", -1, 1).due("at(1, 23)", 2);
        run.due("weave(0, 0)", 1).due("back(0)", 1).due("at(0, 23)", 2).due("at(1, 23)", 2).end();
        Check.about("back: refused, it takes no ACTS away");
        run = new Run().told(TEXT).due("weave(0, 0)", 1).refused(1, "back(0)").due("size(10)", 1).due("undo()", 1);
        run.due("mark()", 0).due("weave(0, 0)", 1).refused(1, "back(1)").due("undo()", 1).end();
    }

    // ---- what is seen

    private static void led() {
        Check.about("led: the i-th ROW that neither side can weave now; NoSuchElementException if there is none such");
        Run run = new Run().told(TEXT).due("may(0)", 3).due("may(1)", 7).due("led(0)", Run.THROWS).due("led(-1)", Run.THROWS);
        run.due("weave(1, 2)", 1).due("led(0)", 2).due("led(1)", Run.THROWS).due("led(-1)", Run.THROWS).due("led(max)", Run.THROWS);
        run.due("led(min)", Run.THROWS).end();
        run = new Run().told(FREE + "left s;right s");
        for (int i = 0; i < 4; i++) {
            run.due("led(" + i + ")", i);
        }
        run.due("led(4)", Run.THROWS).end();
        StringBuilder eight = new StringBuilder(CLOTH + "colour r left 0 right 1");
        for (char r = 'a'; r <= 'h'; r++) {
            eight.append(";row ").append(r).append(" of r ").append(r == 'c' || r == 'f' ? 1 : 2);
        }
        run = new Run().told(eight.toString());
        int[] stuck = {0, 1, 3, 4, 6, 7};
        for (int i = 0; i < stuck.length; i++) {
            run.due("led(" + i + ")", stuck[i]);
        }
        run.due("led(6)", Run.THROWS).due("led(7)", Run.THROWS).due("led(8)", Run.THROWS).end();
    }

    private static void sizes() {
        Check.about("size: 0 .. 12; NONE for others");
        Run run = new Run().told(TEXT + ";note left 0 before right 0");
        run.fed("left").due("weave(0, 0)", 1).times(1, "weeks(1)").due("mark()", 0).due("mark()", 1);
        int[] due = {3, 2, 2, 1, 8, 2, 1, 1, 2, 1, 2, 2, 20};
        for (int what = 0; what < due.length; what++) {
            run.due("size(" + what + ")", due[what]);
        }
        run.due("size(-1)", -1).due("size(13)", -1).due("size(max)", -1).due("size(min)", -1).trouble(0).end();
    }

    private static void troubleOfTheLatestCall() {
        Check.about("TROUBLE: 0 it wasn't refused; of the latest call that may be");
        String[] fine = {"row(0, 0)", "next(0, 0)", "instead(0, 1)", "spare(0)", "rows(0)", "at(0, 0)", "colour(0, 0, 0)", "units()",
            "may(0)", "weave(0, 0)", "rip(0)", "weeks(1)", "undo()", "meets()", "meeting(0)", "woven(0)", "takes(0, 0)", "far(0)",
            "ways()", "sure(0, 0)", "sureRows(0)", "third()", "answered(0)", "wrongs()", "mend()", "mendBy()", "seen(0, 0)",
            "seenAt(0, 0)", "orders()", "ahead(0, 0)", "mark()", "back(0)"};
        Run run;
        for (String call : fine) {
            run = new Run().told(TEXT).due("weave(0, 0)", 1).due("mark()", 0).due("weave(0, 0)", 1);
            run.due("rows(2)", -1, 1).times(1, call).end();
        }
        Check.about("TROUBLE: calls of which no number is told leave it");
        String[] refusedBy = {"", "rows(2)", "weeks(0)", "mark()", "", "weave(0, 2)", "woven(0)"};
        for (int trouble = 1; trouble <= 6; trouble++) {
            run = new Run().told(trouble == 6 ? CLOTH + "colour r left 1 right 1;row a of r 1" : TEXT).times(3, "mark()");
            if (trouble == 4) {
                run.faulty(0, 1, 0).due("cloth(0)", -1, 4);
            } else {
                run.refused(trouble, refusedBy[trouble]).due(refusedBy[trouble], Run.refusal(refusedBy[trouble]), trouble);
            }
            run.due("feed(0, 0, 0, 0, 0)", 20).trouble(trouble).due("fault()", trouble == 4 ? 1 : 0).trouble(trouble);
            run.due("where()", trouble == 4 ? 0 : -1).trouble(trouble).due("size(0)", trouble == 6 ? 1 : 3).trouble(trouble);
            run.due("size(13)", -1).trouble(trouble).due("led(9)", Run.THROWS).trouble(trouble).due("trouble()", trouble);
            run.due("units()", trouble == 6 ? 0 : 3).trouble(0).end();
        }
    }
}
