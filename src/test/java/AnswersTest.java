/** Promises 28 to 35: rows that answer each other, how that is mended, motifs, orders. */
public final class AnswersTest {
    private static final String START = "cloth length 60 slack 0 left 1 right 1 rate 1;colour r left 9 right 9;"
        + "row a of r 0;row b of r 0;row c of r 0;next a then a,b,c;next b then a,b,c;next c then a,b,c;answers a b";

    public static void main(String[] args) {
        withoutCloth();
        answers();
        motifs();
        orders();
        ordersOfMany();
        Check.end();
    }

    private static void withoutCloth() {
        TwoWeavers x = new TwoWeavers();
        Check.due(x, "answered(0)", x.answered(0), -1, 1);
        Check.due(x, "wrongs()", x.wrongs(), -1, 1);
        Check.due(x, "mend()", x.mend(), -1, 1);
        Check.due(x, "mendBy()", x.mendBy(), -1, 1);
        Check.due(x, "seen(0, 0)", x.seen(0, 0), -1, 1);
        Check.due(x, "seenAt(0, 0)", x.seenAt(0, 0), -1, 1);
        Check.due(x, "orders()", x.orders(), -1, 1);
        Check.due(x, "ahead(0, 0)", x.ahead(0, 0), -1, 1);
    }

    private static void answers() {
        TwoWeavers x = Check.told(START + ";left a,b,c,a,c;right b,a,c,a");
        int[] due = {1, 1, 1, 0};
        for (int place = 0; place < 4; place++) {
            Check.due(x, "answered(" + place + ")", x.answered(place), due[place], 0);
        }
        Check.due(x, "answered(4)", x.answered(4), -1, 6);
        Check.due(x, "answered(23)", x.answered(23), -1, 6);
        Check.due(x, "answered(24)", x.answered(24), -1, 1);
        Check.due(x, "answered(-1)", x.answered(-1), -1, 1);
        Check.due(x, "wrongs()", x.wrongs(), 1, 0);
        Check.due(x, "mend(): the right's last", x.mend(), 1, 0);
        Check.due(x, "mendBy()", x.mendBy(), 1, 0);
        x.weave(1, 0);
        Check.due(x, "wrongs()", x.wrongs(), 2, 0);
        Check.due(x, "mend(): down to the first wrong one", x.mend(), 2, 0);
        Check.due(x, "mendBy(): alike, so the left", x.mendBy(), 0, 0);
        x.weave(1, 0);
        Check.due(x, "mendBy()", x.mendBy(), 0, 0);
        x.rip(0);
        x.rip(0);
        Check.due(x, "wrongs()", x.wrongs(), 0, 0);
        Check.due(x, "mend()", x.mend(), 0, 0);
        Check.due(x, "mendBy()", x.mendBy(), -2, 0);
        x = Check.told(START);
        Check.due(x, "answered(0)", x.answered(0), -1, 6);
        Check.due(x, "wrongs()", x.wrongs(), 0, 0);
        Check.due(x, "mend()", x.mend(), 0, 0);
        Check.due(x, "mendBy()", x.mendBy(), -2, 0);
    }

    private static void seen(TwoWeavers x, int motif, int side, int count, int first) {
        Check.due(x, "seen(" + motif + ", " + side + ")", x.seen(motif, side), count, 0);
        Check.due(x, "seenAt(" + motif + ", " + side + ")", x.seenAt(motif, side), first, 0);
    }

    private static void motifs() {
        TwoWeavers x = Check.told(START + ";motif m plain a,b,a;motif n mirrored a,b,c;motif o turning a,b,b;"
            + "motif p growing a,b,c;left a,b,a,b,a,b,b,c,c,c;right b,b,a,b,b,c,b,a");
        seen(x, 0, 0, 2, 0);
        seen(x, 0, 1, 0, -2);
        seen(x, 1, 0, 0, -2);
        seen(x, 1, 1, 1, 5);
        seen(x, 2, 0, 1, 4);
        seen(x, 2, 1, 2, 0);
        seen(x, 3, 0, 1, 4);
        seen(x, 3, 1, 0, -2);
        x.rip(0);
        seen(x, 3, 0, 0, -2);
        Check.due(x, "seen(4, 0)", x.seen(4, 0), -1, 1);
        Check.due(x, "seen(-1, 0)", x.seen(-1, 0), -1, 1);
        Check.due(x, "seen(0, 2)", x.seen(0, 2), -1, 1);
        Check.due(x, "seenAt(4, 0)", x.seenAt(4, 0), -1, 1);
        Check.due(x, "seenAt(0, -1)", x.seenAt(0, -1), -1, 1);
        x = Check.told(START + ";motif m turning a,a;motif n growing a,a,a,a;motif o mirrored c;left a,a,a,a,a,a,a,a,a,a,a,c");
        seen(x, 0, 0, 10, 0);
        seen(x, 1, 0, 2, 0);
        seen(x, 2, 0, 1, 11);
        seen(x, 0, 1, 0, -2);
    }

    private static void orders() {
        TwoWeavers x = Check.told(START + ";left a,a;right a,a,a");
        Check.due(x, "orders()", x.orders(), 10, 0);
        Check.due(x, "ahead(0, 0)", x.ahead(0, 0), 4, 0);
        Check.due(x, "ahead(1, 0)", x.ahead(1, 0), 1, 0);
        Check.due(x, "ahead(0, 2)", x.ahead(0, 2), 9, 0);
        Check.due(x, "ahead(2, 0)", x.ahead(2, 0), -1, 1);
        Check.due(x, "ahead(0, 3)", x.ahead(0, 3), -1, 1);
        Check.due(x, "ahead(-1, 0)", x.ahead(-1, 0), -1, 1);
        Check.due(x, "ahead(0, -1)", x.ahead(0, -1), -1, 1);
        x = Check.told(START + ";left a,a;right a,a,a;note left 0 before right 0;note right 1 before left 1");
        // l r r l r, l r r r l
        Check.due("orders()", x.orders(), 2);
        Check.due("ahead(1, 2)", x.ahead(1, 2), 1);
        Check.due("ahead(1, 0)", x.ahead(1, 0), 0);
        x = Check.told(START + ";left a;right a;note left 0 before right 0;note right 0 before left 0");
        Check.due("orders(): notes that gainsay each other", x.orders(), 0);
        Check.due(x, "ahead(0, 0)", x.ahead(0, 0), 0, 0);
        x.rip(1);
        Check.due("orders(): just the latter is there", x.orders(), 0);
        x.rip(0);
        Check.due("orders(): no rows", x.orders(), 1);
        x = Check.told(START + ";left a;right a;note left 1 before right 1;note left 0 before right 3");
        Check.due("orders(): the latter isn't there", x.orders(), 2);
        x.weave(1, 0);
        Check.due("orders(): just the latter is", x.orders(), 0);
        x.weave(0, 0);
        Check.due("orders(): both are", x.orders(), 3);
        x = Check.told(START + ";right a,a;note left 23 before right 1");
        Check.due("orders()", x.orders(), 0);
        x.rip(1);
        Check.due("orders()", x.orders(), 1);
    }

    private static void ordersOfMany() {
        TwoWeavers x = Check.told(START + ";left a" + ",a".repeat(11) + ";right a" + ",a".repeat(11));
        for (int i = 0; i < 12; i++) {
            x.weave(0, 0);
            x.weave(1, 0);
        }
        Check.due("orders() of 24 and 24", x.orders(), 32247603683100L);
        Check.due("ahead(0, 0)", x.ahead(0, 0), 32247603683100L / 2);
        Check.due("ahead(23, 0)", x.ahead(23, 0), 1);
        Check.due("ahead(0, 23)", x.ahead(0, 23), 32247603683099L);
    }
}
