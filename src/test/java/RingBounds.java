import java.util.List;

/** The bounds of rings and orders (==== 4 of the terms), of the promises 34 to 42, and the constants. */
final class RingBounds {
    private static final int[] FAR = {Integer.MIN_VALUE, Integer.MAX_VALUE};

    private final Sentences s;
    private final Twins rich;

    RingBounds(Sentences s) {
        this.s = s;
        rich = new Twins(s, Twins::rich);
    }

    void all() {
        toldAndUntold();
        firstFive();
        asKnownAt();
        ordersTerm();
        sureTerm();
        askTerm();
        constants();
        ring();
        ringRefused();
        untell();
        untellRefused();
        later();
        laterRefused();
        orders();
        sure();
        sureRefused();
        ask();
        askRefused();
        image();
        imageRefused();
        back();
        backRefused();
        about();
        aboutRefused();
    }

    /** A hedge with so many bills, none of which amends or repeals another. */
    private HedgeRecord plain(int bills) {
        StringBuilder text = new StringBuilder("plant p life 5;topic t;");
        for (int i = 0; i < bills; i++) {
            text.append("bill ").append((char) ('a' + i)).append(" of p at 0;");
        }
        return s.taken(text.toString());
    }

    private void toldAndUntold() {
        s.of("T4", "RINGS, 30 at most, are TOLD at a TIME (0 at first, goes on), UNTOLD at a later one or the same:");
        HedgeRecord x = plain(2);
        s.due("the time at first", x.about(11), 0);
        for (int i = 0; i < 30; i++) {
            s.due("ring " + i, x.ring(0, 1, true), i);
        }
        s.due("one more", x.ring(0, 1, true), -1);
        s.due("30", x.about(10), 30);
        for (int i = 0; i < 30; i++) {
            s.due("untell " + i, x.untell(i), true);
        }
        s.due("untold at the same time, they never counted", x.orders(0), 2);
        s.due("those that are untold are rings still", x.ring(0, 1, true), -1);
        HedgeRecord y = plain(2);
        y.ring(0, 1, true);
        y.later(1);
        y.untell(0);
        s.dueRow("untold at a later one", new int[] {y.orders(-1), y.orders(0), y.orders(1), y.orders(2)}, 2, 1, 2, 2);
    }

    private void firstFive() {
        s.of("T4", "one of the first 5 BILLS was laid ahead of another one of these, or behind.");
        HedgeRecord x = plain(6);
        for (int a = 0; a < 7; a++) {
            for (int b = 0; b < 7; b++) {
                boolean canBe = a < 5 && b < 5 && a != b;
                HedgeRecord y = plain(6);
                s.due("ring " + a + " " + b + " ahead", y.ring(a, b, true), canBe ? 0 : -1);
                s.due("half of the orders", y.orders(0), canBe ? 60 : 120);
                s.due("ring " + b + " " + a + " behind", y.ring(b, a, false), canBe ? 1 : -1);
                s.due("which says the same", y.orders(0), canBe ? 60 : 120);
            }
        }
        x.ring(0, 1, true);
        x.ring(0, 1, false);
        s.due("ahead and behind at once", x.orders(0), 0);
        HedgeRecord z = plain(2);
        z.ring(0, 1, true);
        s.dueRow("ahead", new int[] {z.sure(0, 0), z.sure(1, 0)}, 0, 1);
        HedgeRecord w = plain(2);
        w.ring(0, 1, false);
        s.dueRow("behind", new int[] {w.sure(0, 0), w.sure(1, 0)}, 1, 0);
    }

    private void asKnownAt() {
        s.of("T4", "As known at k those count that were TOLD at k or before, not UNTOLD at k or before, both of whose BILLS are there now.");
        HedgeRecord x = plain(2);
        x.later(5);
        x.ring(0, 1, true);
        x.later(5);
        x.untell(0);
        x.later(5);
        int[][] wanted = {{FAR[0], 2}, {-1, 2}, {0, 2}, {4, 2}, {5, 1}, {6, 1}, {9, 1}, {10, 2}, {11, 2}, {15, 2}, {16, 2},
            {FAR[1], 2}};
        for (int[] w : wanted) {
            s.due("as known at " + w[0], x.orders(w[0]), w[1]);
        }
        HedgeRecord y = plain(2);
        y.ring(0, 1, true);
        s.due("as known at the latest", y.orders(FAR[1]), 1);
        s.due("as known at the earliest", y.orders(FAR[0]), 2);
        HedgeRecord z = plain(3);
        z.lay(0, 0, 0, 0, -1);
        z.lay(0, 0, 0, 0, -1);
        z.ring(4, 0, true);
        z.ring(0, 3, false);
        s.due("with five", z.orders(0), 40);
        z.undo();
        s.due("with four the first ring does not count", z.orders(0), 12);
        z.undo();
        s.due("with three neither does", z.orders(0), 6);
        z.redo();
        z.redo();
        s.due("with five again", z.orders(0), 40);
        z.pull(4);
        s.due("a dead one is there", z.orders(0), 40);
        s.due("all are rings still", z.about(10), 2);
    }

    private void ordersTerm() {
        s.of("T4", "ORDERS: orders of the first 5 BILLS (as many as there are) by which all that count are so, and each was laid behind what it amends, "
            + "and what it repeals.");
        int[] wanted = {1, 1, 2, 6, 24, 120, 120, 120, 120};
        for (int n = 0; n <= 8; n++) {
            s.due("of " + n, plain(n).orders(0), wanted[n]);
        }
        HedgeRecord x = s.taken("plant p life 5;topic t;bill a of p at 0;bill b of p at 0 amends a;bill c of p at 0 repeals a;"
            + "bill d of p at 0 amends b repeals c;"
            + "bill e of p at 0 amends d;");
        s.due("two", x.orders(0), 2);
        x.ring(1, 2, true);
        s.due("one", x.orders(0), 1);
        s.dueRow("places", Checks.row(5, b -> x.sure(b, 0)), 0, 1, 2, 3, 4);
        x.ring(4, 0, true);
        s.due("none", x.orders(0), 0);
        x.untell(1);
        x.untell(0);
        for (int b = 0; b < 5; b++) {
            x.pull(b);
        }
        s.due("dead ones were laid all the same", x.orders(0), 2);
        HedgeRecord y = plain(5);
        y.lay(0, 0, 0, 0, 4);
        y.repeal(0, 0, 0);
        s.due("what the sixth and the seventh do does not count", y.orders(0), 120);
        HedgeRecord z = plain(5);
        z.ring(0, 1, true);
        z.ring(1, 2, true);
        z.ring(2, 0, true);
        s.due("around in a ring", z.orders(0), 0);
    }

    private void sureTerm() {
        s.of("T4", "SURE of a BILL: its place, if it is the same in all.");
        HedgeRecord x = plain(5);
        s.dueRow("none", Checks.row(5, b -> x.sure(b, 0)), -2, -2, -2, -2, -2);
        for (int b = 0; b < 4; b++) {
            x.ring(4, b, true);
        }
        s.dueRow("the last was the first", Checks.row(5, b -> x.sure(b, 0)), -2, -2, -2, -2, 0);
        for (int b = 1; b < 4; b++) {
            x.ring(0, b, false);
        }
        s.dueRow("the first was the last", Checks.row(5, b -> x.sure(b, 0)), 4, -2, -2, -2, 0);
        x.ring(1, 2, false);
        x.ring(2, 3, false);
        s.dueRow("all", Checks.row(5, b -> x.sure(b, 0)), 4, 3, 2, 1, 0);
    }

    private void askTerm() {
        s.of("T4", "ASK: the BILL of which to see the place would leave the fewest of these at the most;"
            + " of like ones the first.");
        HedgeRecord x = plain(5);
        s.dueRow("all alike", new int[] {x.ask(0, 0), x.ask(1, 0)}, 0, 24);
        x.ring(0, 1, true);
        // By place of 0: 24, 18, 12, 6, 0; of another one: 12 each.
        s.dueRow("one that nothing is known of", new int[] {x.ask(0, 0), x.ask(1, 0)}, 2, 12);
        x.ring(1, 2, true);
        x.ring(2, 3, true);
        s.dueRow("the last one", new int[] {x.ask(0, 0), x.ask(1, 0)}, 4, 1);
        x.ring(3, 4, true);
        s.dueRow("one order alone", new int[] {x.ask(0, 0), x.ask(1, 0)}, 0, 1);
        s.dueRow("as known before", new int[] {x.ask(0, -1), x.ask(1, -1)}, 0, 24);
    }

    private void constants() {
        s.of("C", "The constants: `NONE = -1`: There is none.");
        s.due("NONE", HedgeRecord.NONE, -1);
        HedgeRecord x = s.taken("plant p life 1;topic t;");
        s.due("lay with NONE", x.lay(0, 0, 0, 1, HedgeRecord.NONE), 0);
        s.due("amends none", x.bill(0, 6), HedgeRecord.NONE);
    }

    private void ring() {
        s.of("34", "A RING (of the first 5 BILLS): its number;");
        HedgeRecord x = plain(5);
        s.due("the first", x.ring(0, 4, true), 0);
        s.due("the same again", x.ring(0, 4, true), 1);
        s.due("against it", x.ring(4, 0, true), 2);
        x.untell(1);
        s.due("an untold one keeps its number", x.ring(3, 2, false), 3);
        for (int i = 4; i < 30; i++) {
            s.due("ring " + i, x.ring(1, 2, i % 2 == 0), i);
        }
        s.due("how many", x.about(10), 30);
    }

    private void ringRefused() {
        s.of("34", "NONE, doing nothing, if one can't be (both alike, too), or there are 30.");
        int[][] wrong = {{0, 0}, {4, 4}, {-1, 0}, {0, -1}, {-1, -1}, {5, 0}, {0, 5}, {5, 5}, {12, 0}, {0, 12}, {FAR[0], 0},
            {0, FAR[0]}, {FAR[1], 0}, {0, FAR[1]}};
        for (int[] w : wrong) {
            rich.idle("ring " + w[0] + " " + w[1] + " ahead", x -> x.ring(w[0], w[1], true), -1);
            rich.idle("ring " + w[0] + " " + w[1] + " behind", x -> x.ring(w[0], w[1], false), -1);
        }
        HedgeRecord y = plain(2);
        s.dueRow("of two bills", new int[] {y.ring(0, 2, true), y.ring(2, 0, true), y.ring(0, 1, true)}, -1, -1, 0);
        HedgeRecord z = new HedgeRecord();
        s.dueRow("of none", new int[] {z.ring(0, 1, true), z.ring(0, 0, true)}, -1, -1);
        HedgeRecord v = plain(4);
        v.lay(0, 0, 0, 0, -1);
        v.undo();
        s.due("one that was undone", v.ring(0, 4, true), -1);
        v.redo();
        s.due("and done again", v.ring(0, 4, true), 0);
        new Twins(s, x -> {
            Twins.rich(x);
            for (int i = 2; i < 30; i++) {
                x.ring(1, 2, true);
            }
        }).idle("a 31st", x -> x.ring(1, 2, true), -1);
        new Twins(s, x -> {
            Twins.full(x);
            for (int i = 2; i < 30; i++) {
                x.ring(1, 2, true);
            }
            x.untell(29);
        }).idle("a 31st, one being untold", x -> x.ring(0, 1, true), -1);
    }

    private void untell() {
        s.of("35", "It is UNTOLD: true;");
        HedgeRecord x = plain(3);
        x.ring(0, 1, true);
        x.later(2);
        x.ring(1, 2, true);
        x.later(2);
        s.due("the first", x.untell(0), true);
        x.later(2);
        s.due("the last", x.untell(1), true);
        s.dueRow("as known at 0 .. 7", Checks.row(8, x::orders), 3, 3, 1, 1, 3, 3, 6, 6);
        HedgeRecord y = plain(2);
        for (int i = 0; i < 30; i++) {
            y.ring(0, 1, true);
        }
        s.due("the thirtieth", y.untell(29), true);
        s.due("the others still count", y.orders(0), 1);
    }

    private void untellRefused() {
        s.of("35", "false if it is so already, or there is none such.");
        int[] wrong = {-1, 2, 29, 30, FAR[0], FAR[1]};
        for (int ring : wrong) {
            rich.idle("untell " + ring, x -> x.untell(ring) ? 1 : 0, 0);
        }
        rich.idle("untell of one that is untold", x -> x.untell(0) ? 1 : 0, 0);
        HedgeRecord x = plain(2);
        s.due("without rings", x.untell(0), false);
        x.ring(0, 1, true);
        x.later(3);
        s.due("once", x.untell(0), true);
        x.later(3);
        s.due("twice", x.untell(0), false);
        s.dueRow("it stays untold at the first time", Checks.row(7, x::orders), 1, 1, 1, 2, 2, 2, 2);
        HedgeRecord y = plain(2);
        for (int i = 0; i < 30; i++) {
            y.ring(0, 1, true);
        }
        s.due("beyond the thirtieth", y.untell(30), false);
        y.feed(0, 0, 0, 0, 0);
        y.end(0);
        y.hedge();
        s.due("rings of an earlier hedge", y.untell(0), false);
    }

    private void later() {
        s.of("36", "So much later (0 .. 1000): the TIME;");
        HedgeRecord x = new HedgeRecord();
        s.dueRow("0, 1, 1000, 0", new int[] {x.later(0), x.later(1), x.later(1000), x.later(0)}, 0, 1, 1001, 1001);
        s.due("about", x.about(11), 1001);
        HedgeRecord y = new HedgeRecord();
        for (int i = 1; i <= 100; i++) {
            s.due("up to 100,000", y.later(1000), 1000 * i);
        }
        s.due("by 0 at the end", y.later(0), 100000);
    }

    private void laterRefused() {
        s.of("36", "NONE, doing nothing, for another number, or if it would be above 100,000.");
        int[] wrong = {-1, 1001, FAR[0], FAR[1]};
        for (int by : wrong) {
            rich.idle("later " + by, x -> x.later(by), -1);
        }
        HedgeRecord x = new HedgeRecord();
        for (int i = 1; i <= 99; i++) {
            x.later(1000);
        }
        s.due("99,999", x.later(999), 99999);
        s.dueRow("100,001 and more", new int[] {x.later(2), x.later(3), x.later(1000)}, -1, -1, -1);
        s.due("still", x.about(11), 99999);
        s.due("100,000", x.later(1), 100000);
        s.dueRow("no more", new int[] {x.later(1), x.later(1000), x.later(-1)}, -1, -1, -1);
        s.due("still", x.about(11), 100000);
        Checks.read(x, "plant p life 1;bill a of p at 0;bill b of p at 0;");
        s.due("a new hedge does not begin anew", x.about(11), 100000);
        x.ring(0, 1, true);
        s.dueRow("told at the latest time", new int[] {x.orders(99999), x.orders(100000), x.orders(100001)}, 2, 1, 1);
    }

    private void orders() {
        s.of("37", "ORDERS: how many (1 without BILLS).");
        s.due("without bills", new HedgeRecord().orders(0), 1);
        s.dueRow("without bills, at any time", new int[] {new HedgeRecord().orders(FAR[0]), new HedgeRecord().orders(FAR[1])},
            1, 1);
        s.due("one bill", plain(1).orders(0), 1);
        s.due("five bills", plain(5).orders(0), 120);
        HedgeRecord x = plain(2);
        x.ring(0, 1, true);
        x.ring(1, 0, true);
        s.due("none", x.orders(0), 0);
        rich.idle("orders", y -> y.orders(3) & 0, 0);
    }

    private void sure() {
        s.of("38", "SURE: the place; -2 if it is not the same in all,");
        HedgeRecord x = plain(1);
        s.due("one alone", x.sure(0, 0), 0);
        HedgeRecord y = plain(5);
        y.later(1);
        for (int b = 0; b < 4; b++) {
            y.ring(b, b + 1, true);
        }
        s.dueRow("places from 0 to 4", Checks.row(5, b -> y.sure(b, 1)), 0, 1, 2, 3, 4);
        s.dueRow("not known before", Checks.row(5, b -> y.sure(b, 0)), -2, -2, -2, -2, -2);
        rich.idle("sure", z -> z.sure(0, 3) & 0, 0);
    }

    private void sureRefused() {
        s.of("38", "NONE if there are no ORDERS, or it is none of these BILLS.");
        HedgeRecord x = plain(2);
        x.ring(0, 1, true);
        x.later(1);
        x.ring(1, 0, true);
        s.dueRow("no orders", new int[] {x.sure(0, 1), x.sure(1, 1)}, -1, -1);
        s.dueRow("there were some", new int[] {x.sure(0, 0), x.sure(1, 0)}, 0, 1);
        int[] wrong = {-1, 2, 5, 12, FAR[0], FAR[1]};
        for (int b : wrong) {
            s.due("sure " + b, x.sure(b, 0), -1);
        }
        HedgeRecord y = plain(6);
        s.dueRow("the fifth and the sixth", new int[] {y.sure(4, 0), y.sure(5, 0)}, -2, -1);
        s.due("without bills", new HedgeRecord().sure(0, 0), -1);
        rich.idle("sure of none", z -> z.sure(5, 0), -1);
    }

    private void ask() {
        s.of("39", "ASK what 0: the BILL, 1: how many are left at the most;");
        int[][] wanted = {{0, 1}, {0, 1}, {0, 2}, {0, 6}, {0, 24}, {0, 24}};
        for (int n = 1; n <= 6; n++) {
            HedgeRecord x = plain(n);
            s.dueRow("of " + n, new int[] {x.ask(0, 0), x.ask(1, 0)}, wanted[n - 1]);
        }
        rich.idle("ask", z -> z.ask(0, 3) & 0, 0);
    }

    private void askRefused() {
        s.of("39", "NONE if there are no ORDERS, no BILLS, or for another what.");
        HedgeRecord x = plain(2);
        int[] wrong = {-1, 2, FAR[0], FAR[1]};
        for (int what : wrong) {
            s.due("ask " + what, x.ask(what, 0), -1);
        }
        x.ring(0, 1, true);
        x.ring(1, 0, true);
        s.dueRow("no orders", new int[] {x.ask(0, 0), x.ask(1, 0)}, -1, -1);
        HedgeRecord y = new HedgeRecord();
        s.dueRow("no bills", new int[] {y.ask(0, 0), y.ask(1, 0)}, -1, -1);
        rich.idle("ask of another what", z -> z.ask(2, 0), -1);
    }

    private void image() {
        s.of("40", "BILLS, their LIVES, AGES, the year, the SEED are kept in a BOX 0 .. 2: the year;");
        for (int box = 0; box < 3; box++) {
            HedgeRecord x = s.taken("plant p life 9;plant q life 8;topic s;topic t;bill a of q at 3 says t 1;draw 5;grow 0-1;");
            s.due("year 0", x.image(box), 0);
            x.year();
            x.lay(6, 1, 1, 2, 0);
            x.repeal(5, 0, 1);
            x.lay(4, 1, 1, -2, 1);
            x.year();
            List<String> kept = Twins.present(x);
            s.due("year 2", x.image(box), 2);
            for (int other = 0; other < 3; other++) {
                if (other != box) {
                    s.due("another box", x.back(other), -1);
                }
            }
            for (int i = 0; i < 4; i++) {
                x.undo();
            }
            x.repeal(7, 0, 0);
            x.lay(1, 0, 0, 3, -1);
            x.repeal(7, 0, 0);
            x.pull(0);
            x.year();
            x.image((box + 1) % 3);
            x.lay(1, 0, 0, 3, -1);
            x.year();
            x.image((box + 2) % 3);
            s.due("back", x.back(box), 2);
            s.alike("all as it was kept, in box " + box, Twins.present(x), kept);
        }
        HedgeRecord z = plain(8);
        z.image(2);
        z.lay(0, 0, 0, 1, -1);
        z.lay(0, 0, 0, 2, -1);
        z.lay(0, 0, 0, 3, -1);
        z.lay(0, 0, 0, 4, -1);
        z.image(1);
        z.back(2);
        s.due("eight bills", z.about(0), 8);
        z.lay(0, 0, 0, 5, -1);
        z.back(1);
        s.dueRow("twelve bills, and what the ninth says", new int[] {z.about(0), z.bill(8, 5), z.bill(11, 5)}, 12, 1, 4);
        rich.idle("image of what is kept there already", x -> {
            x.image(2);
            return 0;
        }, 0);
    }

    private void imageRefused() {
        s.of("40", "NONE if there is none such.");
        int[] wrong = {-1, 3, 4, FAR[0], FAR[1]};
        for (int box : wrong) {
            rich.idle("image " + box, x -> x.image(box), -1);
        }
        HedgeRecord x = new HedgeRecord();
        s.dueRow("of an empty hedge", new int[] {x.image(-1), x.image(0), x.image(1), x.image(2), x.image(3)}, -1, 0, 0, 0, -1);
    }

    private void back() {
        s.of("41", "All is as it was kept (no ACTS are kept then): the year;");
        HedgeRecord x = s.taken("stakes 3;plant p life 9;topic t;bill a of p at 1 says t 3;draw 5;");
        x.year();
        x.image(0);
        x.year();
        x.undo();
        s.dueRow("acts ahead of it", new int[] {x.about(8), x.about(9)}, 1, 1);
        s.due("the year", x.back(0), 1);
        s.dueRow("acts behind it", new int[] {x.about(8), x.about(9)}, 0, 0);
        s.due("undo", x.undo(), false);
        s.due("redo", x.redo(), false);
        s.dueRow("again and again", new int[] {x.back(0), x.back(0)}, 1, 1);
        x.lay(0, 0, 0, 7, -1);
        s.due("an act behind it can be undone", x.undo(), true);
        s.dueRow("as it was kept", new int[] {x.about(0), x.about(5), x.law(0)}, 1, 1, 3);
        for (int i = 0; i < 45; i++) {
            x.year();
        }
        x.back(0);
        x.year();
        s.due("one act is kept behind many", x.about(8), 1);
        x.undo();
        s.due("it is undone to what was kept", x.about(5), 1);
        HedgeRecord w = plain(0);
        w.lay(5, 0, 0, 1, -1);
        w.lay(3, 0, 0, 2, -1);
        w.image(0);
        w.undo();
        w.lay(7, 0, 0, 4, -1);
        w.image(1);
        s.due("read by the stakes that are now", w.law(0), 4);
        w.back(0);
        s.due("read by the stakes that were kept", w.law(0), 1);
        w.back(1);
        s.due("read by the stakes that were kept in the other box", w.law(0), 4);
        HedgeRecord y = new HedgeRecord();
        Twins.rich(y);
        s.dueRow("rings, the time, the tape, what lies there stay as they are", abouts(y), 2, 5, 25, 2);
        y.back(1);
        s.dueRow("rings, the time, the tape, what lies there stay as they are", abouts(y), 2, 5, 25, 2);
        HedgeRecord z = plain(2);
        z.image(0);
        z.lay(0, 0, 0, 0, -1);
        z.ring(2, 0, true);
        z.back(0);
        s.due("a ring whose bill is gone does not count", z.orders(0), 2);
        z.lay(0, 0, 0, 0, -1);
        s.due("and counts when there is one again", z.orders(0), 3);
    }

    private static int[] abouts(HedgeRecord x) {
        return new int[] {x.about(10), x.about(11), x.about(12), x.about(14)};
    }

    private void backRefused() {
        s.of("41", "NONE, doing nothing, if nothing was.");
        int[] wrong = {-1, 0, 3, 4, FAR[0], FAR[1]};
        for (int box : wrong) {
            rich.idle("back " + box, x -> x.back(box), -1);
        }
        HedgeRecord x = new HedgeRecord();
        s.dueRow("of a new object", Checks.row(3, x::back), -1, -1, -1);
        x.image(1);
        s.dueRow("one kept", Checks.row(3, x::back), -1, 0, -1);
        x.hedge();
        s.dueRow("behind a new hedge", Checks.row(3, x::back), -1, -1, -1);
    }

    private void about() {
        s.of("42", "What 0: BILLS, 1: STAKES, 2: PLANTS, 3: TOPICS, 4: PARTIES, 5: the year, 6: the SEED, 7: all LIFE, 8: ACTS that can be undone, "
            + "9: redone, 10: RINGS, 11: the TIME, 12: bytes on the TAPE, 13: units, 14: how many lie there.");
        HedgeRecord x = new HedgeRecord();
        s.dueRow("the least", Checks.row(15, x::about), 0, 8, 0, 0, 0, 0, 0, 0, 0, 0, 0, 0, 0, 0, 0);
        Checks.read(x, "stakes 12;plant a life 99;plant b life 99;plant c life 99;plant d life 99;topic a;topic b;topic c;"
            + "topic d;party a;party b;party c;"
            + "grow " + "0+".repeat(29) + "0;draw 744;");
        for (int i = 0; i < 12; i++) {
            x.lay(i, i % 4, i % 4, 9, -1);
        }
        for (int i = 0; i < 30; i++) {
            x.ring(0, 1, true);
        }
        for (int i = 0; i < 100; i++) {
            x.later(1000);
        }
        for (int i = 0; i < 80; i++) {
            x.feed(0, 0, 0, 0, 0);
        }
        x.year();
        x.plan(3, 1);
        s.dueRow("the most", Checks.row(15, x::about), 12, 12, 4, 4, 3, 1, 999, 12 * 99, 13, 0, 30, 100000, 1600, 30, 3);
        for (int i = 0; i < 13; i++) {
            x.undo();
        }
        s.dueRow("all undone", Checks.row(15, x::about), 0, 12, 4, 4, 3, 0, 744, 0, 0, 13, 30, 100000, 1600, 30, 3);
        for (int i = 0; i < 60; i++) {
            x.year();
        }
        s.dueRow("acts at the most", new int[] {x.about(8), x.about(9)}, 40, 0);
        for (int i = 0; i < 60; i++) {
            x.undo();
        }
        s.dueRow("undone at the most", new int[] {x.about(8), x.about(9)}, 0, 40);
        HedgeRecord y = s.taken("stakes 2;plant p life 1;bill a of p at 0;bill b of p at 1;");
        y.pull(1);
        s.due("all life", y.about(7), 1);
        s.due("a dead bill is one", y.about(0), 2);
    }

    private void aboutRefused() {
        s.of("42", "NONE for another what.");
        int[] wrong = {-1, 15, 16, FAR[0], FAR[1]};
        for (int what : wrong) {
            rich.idle("about " + what, x -> x.about(what), -1);
        }
    }
}
