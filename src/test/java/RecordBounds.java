/** The bounds of what stands and what the law is (==== 2 of the terms, its first part) and of the promises 6 to 10. */
final class RecordBounds {
    private final Sentences s;

    RecordBounds(Sentences s) {
        this.s = s;
    }

    void all() {
        lives();
        repealed();
        stands();
        reading();
        bill();
        billOfNothing();
        billRefused();
        stake();
        stakeRefused();
        law();
        lawRefused();
        standsBits();
        falls();
        fallsRefused();
    }

    private void lives() {
        s.of("T2", "A BILL has a LIFE (its PLANT's, at first) and an AGE (0); it LIVES with a LIFE above 0.");
        HedgeRecord x = s.taken("stakes 4;plant p life 1;plant q life 99;topic t;bill a of p at 0;bill b of q at 1;");
        s.dueRow("lives at first", new int[] {x.bill(0, 0), x.bill(1, 0)}, 1, 99);
        s.dueRow("ages at first", new int[] {x.bill(0, 1), x.bill(1, 1)}, 0, 0);
        s.due("both live", x.living(0), 0b11);
        x.year();
        x.lay(2, 1, 0, 0, -1);
        x.repeal(2, 0, 2);
        s.dueRow("life of what is laid", new int[] {x.bill(2, 0), x.bill(3, 0)}, 99, 1);
        s.dueRow("age of what is laid in a later year", new int[] {x.bill(0, 1), x.bill(2, 1), x.bill(3, 1)}, 1, 0, 0);
        x.trim(1, 98);
        s.due("life 1 is above 0", x.stake(1, 0), 0b10);
        x.trim(1, 1);
        s.due("life 0 is not", x.stake(1, 0), 0);
        s.due("the others live", x.living(0), 0b1101);
        x.undo();
        x.undo();
        x.undo();
        x.undo();
        x.pull(0);
        x.lay(2, 0, 0, 0, -1);
        s.due("a new bill where one was undone has its own life", x.bill(2, 0), 1);
        s.due("and age", x.bill(2, 1), 0);
    }

    private void repealed() {
        s.of("T2", "It is REPEALED if a BILL that LIVES repeals it.");
        HedgeRecord x = s.taken("plant p life 1;bill a of p at 0;bill b of p at 1 repeals a;bill c of p at 2 repeals b;"
            + "bill d of p at 3 amends a repeals a;");
        s.dueRow("repealed", Checks.row(4, b -> x.bill(b, 9)), 1, 1, 0, 0);
        x.pull(1);
        s.due("by another one that lives, though it does not stand", x.bill(0, 9), 1);
        x.pull(3);
        s.due("by none that lives", x.bill(0, 9), 0);
        s.due("one that does not live can be repealed", x.bill(1, 9), 1);
        x.pull(2);
        s.dueRow("none any more", Checks.row(4, b -> x.bill(b, 9)), 0, 0, 0, 0);
        HedgeRecord y = s.taken("plant p life 1;bill a of p at 0;bill b of p at 1 repeals a;bill c of p at 2 repeals b;");
        s.due("by one that is repealed itself, but lives", y.bill(0, 9), 1);
        HedgeRecord z = s.taken("plant p life 1;");
        s.due("none there", z.bill(0, 9), -100);
    }

    private void stands() {
        s.of("T2", "It STANDS if it LIVES, is not REPEALED, and what it amends STANDS, if it amends one.");
        String text = "plant p life 5;bill a of p at 7;bill b of p at 6 amends a;bill c of p at 5 amends b;"
            + "bill d of p at 4 amends c;"
            + "bill e of p at 3 amends d;bill f of p at 2 amends e;bill g of p at 1 amends f;bill h of p at 0 amends g;";
        s.due("a chain of eight", s.taken(text).stands(), 255);
        for (int b = 0; b < 8; b++) {
            HedgeRecord x = s.taken(text);
            x.pull(b);
            s.due("one pulled up, and all behind it", x.stands(), (1 << b) - 1);
            x.undo();
            x.repeal(0, 0, b);
            s.due("one repealed, and all behind it", x.stands(), (1 << b) - 1 | 256);
            s.due("it lives", x.living(0), 511);
        }
        HedgeRecord y = s.taken("plant p life 5;topic t;bill a of p at 0;");
        y.lay(0, 0, 0, 1, 0);
        for (int i = 1; i < 11; i++) {
            y.lay(0, 0, 0, 1, i);
        }
        s.due("a chain of twelve", y.stands(), 4095);
        y.pull(0);
        s.due("none of them", y.stands(), 0);
    }

    private void reading() {
        s.of("T2", "READING goes by STAKES, at one STAKE by BILLS' numbers: the LAW of a TOPIC is 0 at first;"
            + " one that STANDS and says "
            + "something of it makes it so much, or, if it amends another one, so much more (no bounds).");
        HedgeRecord x = s.taken("stakes 12;plant p life 5;topic s;topic t;topic u;topic v;bill a of p at 11 says t 1;"
            + "bill b of p at 0 says t 2;"
            + "bill c of p at 11 says u 3;bill d of p at 11 says u 4;bill e of p at 0 says v 5 amends a;"
            + "bill f of p at 0 says s 0;");
        s.dueRow("laws", Checks.row(4, x::law), 0, 1, 4, 5);
        x.pull(0);
        s.dueRow("without the first", Checks.row(4, x::law), 0, 2, 4, 0);
        x.pull(3);
        x.pull(1);
        s.dueRow("without others", Checks.row(4, x::law), 0, 0, 3, 0);
        HedgeRecord y = s.taken("stakes 3;plant p life 5;topic t;bill a of p at 1 says t 5;bill b of p at 0 says t 3 amends a;"
            + "bill c of p at 2 says t -7 amends b;");
        s.due("what amends ahead of it is lost, behind it counts", y.law(0), -2);
        y.lay(2, 0, 0, 0, -1);
        s.due("0 is something that is said", y.law(0), 0);
        y.undo();
        y.repeal(2, 0, 0);
        s.due("what says nothing changes nothing by itself", y.law(0), 0);
        for (int sign = -1; sign <= 1; sign += 2) {
            HedgeRecord z = s.taken("plant p life 5;topic t;bill a of p at 0 says t " + (sign < 0 ? "-9;" : "9;"));
            for (int i = 1; i < 12; i++) {
                z.lay(7, 0, 0, 9 * sign, 0);
                s.due("no bounds", z.law(0), 9 * (i + 1) * sign);
            }
        }
        HedgeRecord w = s.taken("stakes 2;plant p life 5;topic t;bill a of p at 0 says t 5;bill b of p at 0 says t 1 amends a;"
            + "bill c of p at 0 says t 8;");
        s.due("at one stake by numbers", w.law(0), 8);
        w.lay(0, 0, 0, 1, 0);
        s.due("so much more than what was read last", w.law(0), 9);
    }

    private void bill() {
        s.of("6", "Of a BILL what 0: its LIFE, 1: AGE, 2: STAKE, 3: PLANT, 4: TOPIC (NONE: it says nothing), 5: what it says (0), "
            + "6: which it amends, 7: repeals (NONE of both), 8: 1 if it STANDS, else 0, 9: 1 if it is REPEALED, else 0;");
        HedgeRecord x = s.taken("stakes 12;plant o life 1;plant p life 2;plant q life 3;plant r life 99;topic s;topic t;"
            + "topic u;topic v;"
            + "bill a of r at 11 says v -9;bill b of o at 0 says s 9 amends a;bill c of p at 5 amends a repeals b;");
        x.year();
        s.dueRow("the greatest numbers", Checks.row(10, w -> x.bill(0, w)), 99, 1, 11, 3, 3, -9, -1, -1, 1, 0);
        s.dueRow("the least numbers", Checks.row(10, w -> x.bill(1, w)), 1, 1, 0, 0, 0, 9, 0, -1, 0, 1);
        s.dueRow("says nothing", Checks.row(10, w -> x.bill(2, w)), 2, 1, 5, 1, -1, 0, 0, 1, 1, 0);
        for (int i = 3; i < 12; i++) {
            x.lay(10, 2, 2, 3, i - 1);
        }
        s.dueRow("the twelfth", Checks.row(10, w -> x.bill(11, w)), 3, 0, 10, 2, 2, 3, 10, -1, 1, 0);
        x.pull(11);
        s.dueRow("dead", Checks.row(10, w -> x.bill(11, w)), 0, 0, 10, 2, 2, 3, 10, -1, 0, 0);
        x.undo();
        x.pull(2);
        s.dueRow("not repealed any more", Checks.row(10, w -> x.bill(1, w)), 1, 1, 0, 0, 0, 9, 0, -1, 1, 0);
        s.due("amends what fell", x.bill(11, 8), 0);
    }

    private void billOfNothing() {
        s.of("6", "4: TOPIC (NONE: it says nothing), 5: what it says (0), 6: which it amends, 7: repeals (NONE of both)");
        HedgeRecord x = s.taken("plant p life 2;topic t;bill a of p at 0;bill b of p at 0 says t -0;");
        s.dueRow("nothing", Checks.row(4, w -> x.bill(0, w + 4)), -1, 0, -1, -1);
        s.dueRow("0 is something", Checks.row(4, w -> x.bill(1, w + 4)), 0, 0, -1, -1);
        x.repeal(0, 0, 1);
        s.dueRow("a repeal says nothing", Checks.row(4, w -> x.bill(2, w + 4)), -1, 0, -1, 1);
        x.lay(0, 0, 0, 0, -1);
        s.dueRow("laid", Checks.row(4, w -> x.bill(3, w + 4)), 0, 0, -1, -1);
        x.undo();
        x.repeal(0, 0, 0);
        s.dueRow("a repeal where another was undone", Checks.row(4, w -> x.bill(3, w + 4)), -1, 0, -1, 0);
    }

    private void billRefused() {
        s.of("6", "-100 if there is none such, or for another what.");
        HedgeRecord x = s.taken("plant p life 2;bill a of p at 0;bill b of p at 0;");
        int[] noBill = {-1, 2, 11, 12, 13, 32, Integer.MIN_VALUE, Integer.MAX_VALUE};
        for (int b : noBill) {
            for (int what = 0; what < 10; what++) {
                s.due("bill " + b + " " + what, x.bill(b, what), -100);
            }
        }
        int[] noWhat = {-1, 10, 11, Integer.MIN_VALUE, Integer.MAX_VALUE};
        for (int what : noWhat) {
            s.due("bill 0 " + what, x.bill(0, what), -100);
            s.due("bill 1 " + what, x.bill(1, what), -100);
        }
        s.due("of none", new HedgeRecord().bill(0, 0), -100);
        x.repeal(0, 0, 0);
        s.due("there now", x.bill(2, 0), 2);
        x.undo();
        s.due("not there any more", x.bill(2, 0), -100);
        HedgeRecord y = new HedgeRecord();
        Twins.full(y);
        s.due("the twelfth", y.bill(11, 0) != -100, true);
        s.due("no thirteenth", y.bill(12, 0), -100);
        new Twins(s, Twins::rich).idle("bill", z -> z.bill(12, 0), -100);
    }

    private void stake() {
        s.of("7", "BILLS at a STAKE that LIVE (what 0), STAND (1), as bits;");
        HedgeRecord x = s.taken("stakes 12;plant p life 2;topic t;bill a of p at 0;bill b of p at 0 repeals a;"
            + "bill c of p at 11;");
        for (int i = 3; i < 12; i++) {
            x.lay(11, 0, 0, 1, i == 11 ? 0 : -1);
        }
        s.dueRow("the first stake", new int[] {x.stake(0, 0), x.stake(0, 1)}, 0b11, 0b10);
        s.dueRow("the last stake", new int[] {x.stake(11, 0), x.stake(11, 1)}, 0b111111111100, 0b011111111100);
        s.dueRow("an empty one", new int[] {x.stake(5, 0), x.stake(5, 1)}, 0, 0);
        x.pull(1);
        s.dueRow("one dead", new int[] {x.stake(0, 0), x.stake(0, 1)}, 0b01, 0b01);
        s.dueRow("the twelfth stands then", new int[] {x.stake(11, 0), x.stake(11, 1)}, 0b111111111100, 0b111111111100);
    }

    private void stakeRefused() {
        s.of("7", "NONE if there is none such, or for another what.");
        int[] counts = {2, 8, 12};
        for (int n : counts) {
            HedgeRecord x = s.taken("stakes " + n + ";");
            s.due("the last of " + n, x.stake(n - 1, 1), 0);
            int[] wrong = {-1, n, n + 1, Integer.MIN_VALUE, Integer.MAX_VALUE};
            for (int stake : wrong) {
                s.due("stake " + stake + " of " + n, x.stake(stake, 0), -1);
                s.due("stake " + stake + " of " + n, x.stake(stake, 1), -1);
            }
            int[] noWhat = {-1, 2, Integer.MIN_VALUE, Integer.MAX_VALUE};
            for (int what : noWhat) {
                s.due("what " + what, x.stake(0, what), -1);
            }
        }
        new Twins(s, Twins::rich).idle("stake", x -> x.stake(5, 0), -1);
    }

    private void law() {
        s.of("8", "LAW;");
        HedgeRecord x = s.taken("plant p life 2;topic s;topic t;topic u;topic v;bill a of p at 0 says s 1;"
            + "bill b of p at 7 says v -9;");
        s.dueRow("of the first, the last, and those of which nothing is said", Checks.row(4, x::law), 1, 0, 0, -9);
    }

    private void lawRefused() {
        s.of("8", "-1000 if there is no such TOPIC.");
        HedgeRecord x = s.taken("topic s;topic t;");
        int[] wrong = {-1, 2, 3, 4, Integer.MIN_VALUE, Integer.MAX_VALUE};
        for (int topic : wrong) {
            s.due("law " + topic, x.law(topic), -1000);
        }
        s.due("the last", x.law(1), 0);
        s.due("without topics", new HedgeRecord().law(0), -1000);
        HedgeRecord y = s.taken("topic s;topic t;topic u;topic v;");
        s.due("of four the last", y.law(3), 0);
        s.due("of four the next", y.law(4), -1000);
        new Twins(s, Twins::rich).idle("law", z -> z.law(2), -1000);
    }

    private void standsBits() {
        s.of("9", "BILLS that STAND, as bits.");
        s.due("none", new HedgeRecord().stands(), 0);
        HedgeRecord x = s.taken("plant p life 2;topic t;");
        for (int i = 0; i < 12; i++) {
            x.lay(i % 8, 0, 0, 0, -1);
            s.due("up to " + i, x.stands(), (1 << i + 1) - 1);
        }
        x.pull(11);
        s.due("without the last", x.stands(), 2047);
        x.pull(0);
        s.due("without the first", x.stands(), 2046);
        new Twins(s, Twins::rich).idle("stands", y -> y.stands() & 0, 0);
    }

    private void falls() {
        s.of("10", "BILLS that do not STAND any more if one is pulled up, but do now, it too, as bits;");
        HedgeRecord x = s.taken("plant p life 2;bill a of p at 0;bill b of p at 0 amends a;bill c of p at 0 amends b;"
            + "bill d of p at 0 repeals c;"
            + "bill e of p at 0 amends a;bill f of p at 0 repeals e;bill g of p at 0 amends b repeals f;");
        s.due("it and what amends it and stands", x.falls(0), 0b1000011);
        s.due("it and one that amends it", x.falls(1), 0b1000010);
        s.due("it does not stand", x.falls(2), 0);
        s.due("what stands then only counts not", x.falls(3), 0b0001000);
        s.due("repealed, but lives", x.falls(4), 0);
        s.due("repeals, but is repealed itself: it does not stand now", x.falls(5), 0);
        s.due("it alone", x.falls(6), 0b1000000);
        s.due("what was so stays so", x.stands(), 0b1001011);
        x.pull(0);
        s.due("it does not live", x.falls(0), 0);
        new Twins(s, Twins::rich).idle("falls", y -> y.falls(0) & 0, 0);
    }

    private void fallsRefused() {
        s.of("10", "NONE if there is none such.");
        HedgeRecord x = s.taken("plant p life 2;bill a of p at 0;bill b of p at 0;");
        int[] wrong = {-1, 2, 11, 12, 31, 32, Integer.MIN_VALUE, Integer.MAX_VALUE};
        for (int b : wrong) {
            s.due("falls " + b, x.falls(b), -1);
        }
        s.due("the last", x.falls(1), 0b10);
        s.due("of none", new HedgeRecord().falls(0), -1);
        HedgeRecord y = new HedgeRecord();
        Twins.full(y);
        s.due("the twelfth", y.falls(11), 1 << 11);
        s.due("the thirteenth", y.falls(12), -1);
        new Twins(s, Twins::rich).idle("falls", z -> z.falls(12), -1);
    }
}
