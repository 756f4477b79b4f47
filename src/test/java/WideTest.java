import java.math.BigInteger;
import java.util.ArrayList;
import java.util.List;
import java.util.Random;

/** Promises 3 and 10 to 37 on cloths of every size: runs of acts, several cloths on one object, held against WideModel. */
public final class WideTest {
    private static final Random RANDOM = new Random(20261118);
    private static final int OBJECTS = 400;
    private static final int MOST_CALLS = 512;
    private static final int CALLS_OF_A_LOOK = 100;

    private TwoWeavers x = new TwoWeavers();
    private WideModel model = new WideModel();
    private final List<WideModel.State> acts = new ArrayList<>();
    private final List<WideModel.State> marks = new ArrayList<>();
    private int made = 0;

    public static void main(String[] args) {
        for (int i = 0; i < OBJECTS; i++) {
            new WideTest().run();
        }
        Check.end();
    }

    private static int below(int n) {
        return RANDOM.nextInt(n);
    }

    private void run() {
        while (made < MOST_CALLS - 150) {
            tellCloth();
            int rounds = 1 + below(3);
            for (int round = 0; round < rounds && made < MOST_CALLS - 150; round++) {
                for (int i = below(20); i > 0; i--) {
                    act();
                }
                look();
            }
        }
        Check.due("calls on one object " + made, made <= MOST_CALLS, true);
    }

    // ---- a cloth

    private void tellCloth() {
        model = new WideModel();
        acts.clear();
        marks.clear();
        StringBuilder text = new StringBuilder();
        tellSizes(text);
        tellKinds(text);
        for (int side = 0; side < 2; side++) {
            tellSide(text, side);
        }
        for (int i = below(7); i > 0; i--) {
            int side = below(2);
            int[] note = {side, below(below(2) == 0 ? 24 : 6), below(24)};
            model.notes.add(note);
            text.append(";note ").append(side == 0 ? "left " : "right ").append(note[1]).append(" before ")
                .append(side == 0 ? "right " : "left ").append(note[2]);
        }
        Check.about("cloth " + text);
        made += (text.length() + 19) / 20 + 1;
        Check.due("cloth()", Check.tell(x, text.toString()), model.kinds);
    }

    private void tellSizes(StringBuilder text) {
        model.length = 4 + below(below(2) == 0 ? 57 : 20);
        model.slack = below(10);
        model.rate = 1 + below(5);
        model.hands[0] = 1 + below(below(2) == 0 ? 9 : 3);
        model.hands[1] = 1 + below(below(2) == 0 ? 9 : 3);
        text.append("cloth length ").append(model.length).append(" slack ").append(model.slack).append(" left ")
            .append(model.hands[0]).append(" right ").append(model.hands[1]).append(" rate ").append(model.rate);
        model.colours = 1 + below(2);
        for (int c = 0; c < model.colours; c++) {
            model.now.stores[0][c] = below(10);
            model.now.stores[1][c] = below(10);
            text.append(";colour ").append(c == 0 ? "red" : "green").append(" left ").append(model.now.stores[0][c])
                .append(" right ").append(model.now.stores[1][c]);
        }
    }

    private void tellKinds(StringBuilder text) {
        model.kinds = 1 + below(8);
        int cheap = 1 + below(4);
        int seams = below(2) == 0 ? 4 : 12;
        for (int r = 0; r < model.kinds; r++) {
            model.colour[r] = below(model.colours);
            model.takes[r] = below(cheap) == 0 ? below(4) : 0;
            model.seam[r] = below(seams) == 0;
            text.append(";row ").append((char) ('a' + r)).append(model.colour[r] == 0 ? " of red " : " of green ")
                .append(model.takes[r]).append(model.seam[r] ? " seam" : "");
        }
        int dense = 1 + below(5);
        for (int r = 0; r < model.kinds; r++) {
            StringBuilder list = new StringBuilder();
            for (int q = model.kinds - 1; q >= 0; q--) {
                model.next[r][q] = below(6) < dense;
                if (model.next[r][q]) {
                    list.append(list.length() == 0 ? "" : ",").append((char) ('a' + q));
                }
            }
            text.append(list.length() == 0 ? "" : ";next " + (char) ('a' + r) + " then " + list);
        }
    }

    private void tellSide(StringBuilder text, int side) {
        StringBuilder list = new StringBuilder();
        for (int i = below(2) == 0 ? 0 : below(13); i > 0; i--) {
            int may = model.may(model.now, side);
            if (may != 0) {
                int r = oneOf(may);
                model.weave(model.now, side, r);
                list.append(list.length() == 0 ? "" : ",").append((char) ('a' + r));
            }
        }
        text.append(list.length() == 0 ? "" : (side == 0 ? ";left " : ";right ") + list);
    }

    private static int oneOf(int bits) {
        int skipped = below(Integer.bitCount(bits));
        int rest = bits;
        for (int i = 0; i < skipped; i++) {
            rest &= rest - 1;
        }
        return Integer.numberOfTrailingZeros(rest);
    }

    // ---- acts

    private void act() {
        int side = below(2);
        int may = model.may(model.now, side);
        switch (below(12)) {
            case 0: rip(side); break;
            case 1: weeks(1 + below(below(2) == 0 ? 9 : 2)); break;
            case 2: undo(); break;
            case 3: markOrBack(); break;
            default:
                if (may != 0) {
                    weave(side, oneOf(may));
                }
        }
    }

    private void keep() {
        acts.add(model.now.copy());
        if (acts.size() > 12) {
            acts.remove(0);
        }
    }

    private void weave(int side, int r) {
        keep();
        made++;
        Check.due("weave(" + side + ", " + r + ")", x.weave(side, r), true);
        model.weave(model.now, side, r);
    }

    private void rip(int side) {
        boolean some = !model.now.rows.get(side).isEmpty();
        made++;
        Check.due("rip(" + side + ")", x.rip(side), some);
        if (some) {
            keep();
            model.rip(model.now, side);
        }
    }

    private void weeks(int n) {
        keep();
        made++;
        Check.due("weeks(" + n + ")", x.weeks(n), model.weeks(model.now, n));
    }

    private void undo() {
        made++;
        Check.due("undo()", x.undo(), !acts.isEmpty());
        if (!acts.isEmpty()) {
            model.now = acts.remove(acts.size() - 1);
        }
    }

    private void markOrBack() {
        made++;
        if (marks.size() < 3 && below(3) > 0) {
            Check.due("mark()", x.mark(), marks.size());
            marks.add(model.now.copy());
            return;
        }
        int mark = below(3);
        Check.due("back(" + mark + ")", x.back(mark), mark < marks.size());
        if (mark < marks.size()) {
            model.now = marks.get(mark).copy();
            acts.clear();
        }
    }

    // ---- looks

    private void due(String call, long got, long want) {
        made++;
        Check.due(call + " at " + model.now.rows, got, want);
    }

    private void look() {
        int before = made;
        due("size(9)", x.size(9), model.now.weeks);
        due("size(10)", x.size(10), acts.size());
        due("size(11)", x.size(11), marks.size());
        for (int side = 0; side < 2; side++) {
            lookAt(side);
        }
        int lefts = model.now.rows.get(0).size();
        int rights = model.now.rows.get(1).size();
        due("units()", x.units(), lefts * model.hands[0] + rights * model.hands[1]);
        WideModel.Meeting best = model.best(model.now);
        due("meets()", x.meets(), best != null && best.ripped() + best.woven() == 0 ? 1 : 0);
        lookAtBest(best);
        due("ways()", x.ways(), model.ways(model.now).min(WideModel.MOST_TOLD).longValueExact());
        due("orders()", x.orders(), model.orders(model.now, model.notes).longValueExact());
        if (lefts > 0 && rights > 0) {
            lookAhead(below(lefts), below(rights));
        }
        Check.due("calls of a look " + (made - before), made - before <= CALLS_OF_A_LOOK, true);
    }

    private void lookAt(int side) {
        List<Integer> rows = model.now.rows.get(side);
        due("rows", x.rows(side), rows.size());
        if (!rows.isEmpty()) {
            int place = below(rows.size());
            due("at(" + side + ", " + place + ")", x.at(side, place), rows.get(place));
        }
        for (int c = 0; c < model.colours; c++) {
            due("colour(" + side + ", " + c + ", 0)", x.colour(side, c, 0), model.now.stores[side][c]);
            due("colour(" + side + ", " + c + ", 2)", x.colour(side, c, 2), model.now.waste[side][c]);
        }
        int may = model.may(model.now, side);
        int sure = 0;
        for (int r = 0; r < model.kinds; r++) {
            sure |= (may >> r & 1) == 1 && model.sure(model.now, side, r) ? 1 << r : 0;
        }
        due("may(" + side + ")", x.may(side), may);
        due("sureRows(" + side + ")", x.sureRows(side), sure);
        if (may != 0) {
            int r = oneOf(may);
            due("sure(" + side + ", " + r + ")", x.sure(side, r), sure >> r & 1);
        }
        due("far(" + side + ")", x.far(side), model.far(model.now, side));
    }

    private void lookAtBest(WideModel.Meeting best) {
        for (int what = 0; what < 4; what++) {
            due("meeting(" + what + ")", x.meeting(what), best == null ? -2 : best.key()[what]);
        }
        int[][] taken = new int[2][2];
        int woven = best == null ? 0 : best.woven();
        for (int i = 0; i < woven; i++) {
            int r = best.rows().get(i);
            taken[i < best.leftWoven() ? 0 : 1][model.colour[r]] += model.takes[r];
            due("woven(" + i + ")", x.woven(i), r);
        }
        due("woven(" + woven + ")", x.woven(woven), -1);
        for (int i = 0; i < 2 * model.colours; i++) {
            due("takes(" + i % 2 + ", " + i / 2 + ")", x.takes(i % 2, i / 2), best == null ? -1 : taken[i % 2][i / 2]);
        }
    }

    private void lookAhead(int left, int right) {
        List<int[]> kept = new ArrayList<>(model.notes);
        kept.add(new int[] {0, left, right});
        BigInteger orders = model.orders(model.now, kept);
        due("ahead(" + left + ", " + right + ")", x.ahead(left, right), orders.longValueExact());
    }
}
