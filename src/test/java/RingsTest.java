/** Promises 34 to 39: rings told and untold, and the orders in which bills were laid. */
public final class RingsTest {
    private static final Checks CHECKS = new Checks();

    public static void main(String[] args) {
        ringing();
        thirty();
        untelling();
        times();
        twoTimes();
        ordering();
        billsThatGo();
        sure();
        asking();
        CHECKS.finish();
    }

    private static void due(String call, long got, long want) {
        CHECKS.due(call, got, want);
    }

    private static HedgeRecord plain(int bills) {
        StringBuilder text = new StringBuilder("plant p life 5;topic t;");
        for (int i = 0; i < bills; i++) {
            text.append("bill ").append((char) ('a' + i)).append(" of p at 0;");
        }
        return Checks.told(text.toString());
    }

    private static void ringing() {
        HedgeRecord x = plain(6);
        due("34: first", x.ring(0, 4, true), 0);
        due("34: second", x.ring(4, 0, false), 1);
        due("34: the sixth bill", x.ring(5, 0, true), -1);
        due("34: with the sixth bill", x.ring(0, 5, true), -1);
        due("34: alike", x.ring(3, 3, false), -1);
        due("34: below 0", x.ring(-1, 3, false), -1);
        due("34: other below 0", x.ring(3, -1, false), -1);
        due("34: two", x.about(10), 2);
        due("34: against what is known", x.ring(4, 0, true), 2);
        due("37: then there are none", x.orders(0), 0);
        HedgeRecord y = plain(2);
        due("34: not there", y.ring(0, 2, true), -1);
        due("34: no bills", new HedgeRecord().ring(0, 1, true), -1);
    }

    private static void thirty() {
        HedgeRecord x = plain(2);
        for (int i = 0; i < 30; i++) {
            due("34: ring " + i, x.ring(0, 1, true), i);
        }
        due("34: there are 30", x.ring(0, 1, true), -1);
        CHECKS.due("35: the last", x.untell(29), true);
        due("34: an untold one counts", x.ring(0, 1, true), -1);
        due("42: rings", x.about(10), 30);
    }

    private static void untelling() {
        HedgeRecord x = plain(2);
        CHECKS.due("35: none such", x.untell(0), false);
        x.ring(0, 1, true);
        due("37: one", x.orders(0), 1);
        CHECKS.due("35: below 0", x.untell(-1), false);
        CHECKS.due("35: untold", x.untell(0), true);
        CHECKS.due("35: already", x.untell(0), false);
        due("37: untold at the same time", x.orders(0), 2);
        due("37: it counted never", x.orders(-1), 2);
        HedgeRecord y = plain(2);
        y.ring(0, 1, true);
        Checks.read(y, "plant p life 5;bill a of p at 0;bill b of p at 0;");
        due("4: rings are none", y.orders(0), 2);
        CHECKS.due("35: gone with the hedge", y.untell(0), false);
    }

    private static void times() {
        HedgeRecord x = new HedgeRecord();
        due("36: by 0", x.later(0), 0);
        due("36: by 1000", x.later(1000), 1000);
        due("36: by 1001", x.later(1001), -1);
        due("36: by less", x.later(-1), -1);
        due("36: nothing done", x.about(11), 1000);
        for (int i = 2; i <= 99; i++) {
            due("36: later", x.later(1000), 1000 * i);
        }
        due("36: near the end", x.later(999), 99999);
        due("36: above", x.later(2), -1);
        due("36: up to it", x.later(1), 100000);
        due("36: no more", x.later(1), -1);
        due("36: still by 0", x.later(0), 100000);
        Checks.read(x, "topic t;");
        due("36: the time stays", x.about(11), 100000);
    }

    private static void twoTimes() {
        HedgeRecord x = plain(3);
        x.later(5);
        x.ring(0, 1, true);
        x.later(2);
        x.ring(2, 1, false);
        x.later(3);
        x.untell(0);
        int[][] wanted = {{-9, 6}, {0, 6}, {4, 6}, {5, 3}, {6, 3}, {7, 1}, {9, 1}, {10, 3}, {1000, 3}};
        for (int[] w : wanted) {
            due("37: as known at " + w[0], x.orders(w[0]), w[1]);
        }
        due("37: at the end of time", x.orders(Integer.MAX_VALUE), 3);
        due("37: at the beginning", x.orders(Integer.MIN_VALUE), 6);
    }

    private static void ordering() {
        due("37: without bills", new HedgeRecord().orders(0), 1);
        int[] wanted = {1, 1, 2, 6, 24, 120, 120, 120};
        for (int n = 0; n < wanted.length; n++) {
            due("37: of " + n, plain(n).orders(0), wanted[n]);
        }
        HedgeRecord x = Checks.told("plant p life 5;bill a of p at 0;bill b of p at 0 amends a;bill c of p at 0 repeals b;"
            + "bill d of p at 0 amends a repeals c;bill e of p at 0;");
        due("37: behind what it amends and repeals", x.orders(0), 5);
        x.pull(0);
        x.pull(1);
        due("37: dead ones, too", x.orders(0), 5);
        x.ring(4, 3, true);
        due("37: and as told", x.orders(0), 4);
        x.repeal(0, 0, 4);
        due("37: the sixth is none of them", x.orders(0), 4);
    }

    private static void billsThatGo() {
        HedgeRecord x = plain(2);
        x.lay(0, 0, 0, 1, -1);
        x.ring(2, 0, true);
        due("37: with three", x.orders(0), 3);
        x.undo();
        due("37: both bills must be there", x.orders(0), 2);
        due("34: not there now", x.ring(2, 0, true), -1);
        x.lay(0, 0, 0, 1, 0);
        due("37: there again, and it amends what was behind it", x.orders(0), 0);
        due("38: no orders", x.sure(0, 0), -1);
        due("39: no orders", x.ask(0, 0), -1);
        due("39: no orders", x.ask(1, 0), -1);
    }

    private static void sure() {
        HedgeRecord x = plain(6);
        x.ring(0, 1, true);
        x.ring(0, 2, true);
        x.ring(0, 3, true);
        x.ring(4, 3, true);
        due("38: not sure", x.sure(0, 0), -2);
        x.ring(4, 0, true);
        due("38: first", x.sure(4, 0), 0);
        due("38: second", x.sure(0, 0), 1);
        due("38: not sure", x.sure(3, 0), -2);
        due("38: none of these", x.sure(5, 0), -1);
        due("38: below 0", x.sure(-1, 0), -1);
        due("38: not known before", x.sure(4, -1), -2);
        x.ring(3, 1, true);
        x.ring(1, 2, true);
        due("38: last", x.sure(2, 0), 4);
        due("38: without bills", new HedgeRecord().sure(0, 0), -1);
    }

    private static void asking() {
        due("39: no bills", new HedgeRecord().ask(0, 0), -1);
        due("39: no bills", new HedgeRecord().ask(1, 0), -1);
        HedgeRecord x = plain(5);
        due("39: of like ones the first", x.ask(0, 0), 0);
        due("39: left at the most", x.ask(1, 0), 24);
        due("39: another what", x.ask(2, 0), -1);
        due("39: what below 0", x.ask(-1, 0), -1);
        x.ring(0, 1, true);
        x.ring(1, 2, true);
        x.ring(2, 3, true);
        due("39: the free one", x.ask(0, 0), 4);
        due("39: one is left", x.ask(1, 0), 1);
        due("39: as known before", x.ask(0, -1), 0);
        due("39: of one alone", plain(1).ask(0, 0), 0);
        due("39: of one alone", plain(1).ask(1, 0), 1);
    }
}
