import java.util.ArrayList;
import java.util.List;
import java.util.function.Consumer;
import java.util.function.ToLongFunction;

/**
 * Two objects with the same past, to see that a call does nothing: one of them is handed the call, and then everything
 * that can be asked of both, what is kept for undoing and in boxes and on the tape among it, must be answered alike.
 */
final class Twins {
    private static final int BILLS = 12;

    private final Sentences s;
    private final Consumer<HedgeRecord> past;

    Twins(Sentences s, Consumer<HedgeRecord> past) {
        this.s = s;
        this.past = past;
    }

    /** A past with something of every kind: acts done and undone, boxes, rings told and untold, a tape, what lies there. */
    static void rich(HedgeRecord x) {
        Checks.read(x, "stakes 5;plant p life 7;plant q life 9 hardy;topic s;topic t;bill a of p at 1 says s 4;"
            + "bill b of q at 2 says t -2;bill c of p at 2 says s 1 amends a;bill d of q at 3 says s 6;party r;party g;"
            + "wants r s 3 by 2;wants g t 5 by 1;wants g s 0 by 4;grow 1-near;frost 60 of 2;draw 9;");
        x.year();
        x.image(1);
        x.ring(0, 1, true);
        x.later(3);
        x.ring(3, 2, false);
        x.untell(0);
        x.later(2);
        x.lay(4, 0, 1, 7, -1);
        x.trim(2, 1);
        x.pull(1);
        x.repeal(0, 1, 3);
        x.year();
        x.undo();
        x.undo();
        x.image(2);
        x.plan(2, 3);
        Checks.read(x, "topic t;topic ?");
        x.feed(0x746f7069, 0x6320613b, 0x746f7069, 0x6320623b, 0x70617274);
        x.feed(0x79206720, 0x3b000000, 0, 0, 0);
        x.end(25);
    }

    /** The past of these twins, with twelve bills. */
    static void full(HedgeRecord x) {
        rich(x);
        while (x.lay(0, 0, 0, 1, -1) != HedgeRecord.NONE) {
            x.later(0);
        }
        x.undo();
        x.redo();
    }

    /** The call answers as told and does nothing. */
    void idle(String name, ToLongFunction<HedgeRecord> call, long want) {
        HedgeRecord x = new HedgeRecord();
        HedgeRecord y = new HedgeRecord();
        past.accept(x);
        past.accept(y);
        s.due(name, call.applyAsLong(x), want);
        s.alike(name + " leaves all as it was", everything(x), everything(y));
    }

    /** The call does just what the other one does. */
    void alike(String name, Consumer<HedgeRecord> call, Consumer<HedgeRecord> other) {
        HedgeRecord x = new HedgeRecord();
        HedgeRecord y = new HedgeRecord();
        past.accept(x);
        past.accept(y);
        call.accept(x);
        other.accept(y);
        s.alike(name, everything(x), everything(y));
    }

    /** All answers; the object is used up by it. */
    static List<String> everything(HedgeRecord x) {
        List<String> found = new ArrayList<>();
        found.add("fault " + x.fault(0) + " at " + x.fault(1));
        found.addAll(everythingButFault(x));
        return found;
    }

    /** All answers but those of the latest text's fault; the object is used up by it. */
    static List<String> everythingButFault(HedgeRecord x) {
        List<String> found = new ArrayList<>();
        for (int i = 0; i < 4; i++) {
            found.add("lies " + i + ": " + x.lies(i));
        }
        for (int k = -1; k <= x.about(11) + 1; k++) {
            found.add("orders " + k + ": " + x.orders(k));
        }
        present(found, "now", x);
        for (int i = 1; i <= 41 && x.redo(); i++) {
            present(found, "redone " + i, x);
        }
        for (int i = 1; i <= 41 && x.undo(); i++) {
            present(found, "undone " + i, x);
        }
        for (int box = 0; box < 3; box++) {
            found.add("box " + box + ": " + x.back(box));
            present(found, "box " + box, x);
        }
        for (int ring = 0; ring < 30; ring++) {
            found.add("untell " + ring + ": " + x.untell(ring));
        }
        for (int k = -1; k <= x.about(11) + 1; k++) {
            found.add("orders then " + k + ": " + x.orders(k));
        }
        found.add("hedge of the tape " + x.hedge() + " fault " + x.fault(0) + " at " + x.fault(1));
        present(found, "tape", x);
        return found;
    }

    /** What acts change, and images keep. */
    static List<String> present(HedgeRecord x) {
        List<String> found = new ArrayList<>();
        int[] whats = {0, 5, 6, 7};
        for (int what : whats) {
            found.add("about " + what + ": " + x.about(what));
        }
        addBills(found, "", x);
        return found;
    }

    private static void present(List<String> found, String when, HedgeRecord x) {
        for (int what = -1; what <= 15; what++) {
            found.add(when + ": about " + what + ": " + x.about(what));
        }
        addBills(found, when, x);
    }

    private static void addBills(List<String> found, String when, HedgeRecord x) {
        for (int b = 0; b <= BILLS; b++) {
            for (int what = 0; what < 10; what++) {
                found.add(when + ": bill " + b + " " + what + ": " + x.bill(b, what));
            }
        }
        for (int t = 0; t < 4; t++) {
            found.add(when + ": law " + t + ": " + x.law(t));
            found.add(when + ": joy " + t + ": " + x.joy(t));
        }
        found.add(when + ": stands " + x.stands() + " gaps " + x.gaps());
        found.add(when + ": in ten years " + x.living(10));
    }
}
