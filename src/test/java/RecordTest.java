/** Promises 6 to 10 and 22 to 24: what stands, what the law is, which bills clash. */
public final class RecordTest {
    private static final Checks CHECKS = new Checks();
    private static final int NO_BILL = -100;

    public static void main(String[] args) {
        bills();
        stakes();
        standing();
        reading();
        falling();
        clashing();
        weeding();
        placing();
        CHECKS.finish();
    }

    private static void due(String call, long got, long want) {
        CHECKS.due(call, got, want);
    }

    private static void bills() {
        HedgeRecord x = Checks.told("plant p life 5;plant q life 9;topic s;topic t;"
            + "bill a of p at 3 says t -4;bill b of q at 2 says s 0 amends a repeals a;bill c of q at 7;");
        int[][] wanted = {{5, 0, 3, 0, 1, -4, -1, -1, 0, 1}, {9, 0, 2, 1, 0, 0, 0, 0, 0, 0}, {9, 0, 7, 1, -1, 0, -1, -1, 1, 0}};
        for (int b = 0; b < 3; b++) {
            for (int what = 0; what < 10; what++) {
                due("6: bill " + b + " " + what, x.bill(b, what), wanted[b][what]);
            }
            due("6: another what", x.bill(b, 10), NO_BILL);
            due("6: what below 0", x.bill(b, -1), NO_BILL);
        }
        due("6: none such", x.bill(3, 0), NO_BILL);
        due("6: below 0", x.bill(-1, 0), NO_BILL);
        due("6: far off", x.bill(Integer.MAX_VALUE, 0), NO_BILL);
        x.pull(1);
        due("6: not repealed by what does not live", x.bill(0, 9), 0);
        due("6: stands", x.bill(0, 8), 1);
        due("6: what does not live does not stand", x.bill(1, 8), 0);
        x.year();
        due("6: age", x.bill(0, 1), 1);
        due("6: no age without life", x.bill(1, 1), 0);
    }

    private static void stakes() {
        HedgeRecord x = Checks.told("stakes 3;plant p life 5;bill a of p at 1;bill b of p at 1 repeals a;bill c of p at 2;");
        due("7: live", x.stake(1, 0), 3);
        due("7: stand", x.stake(1, 1), 2);
        due("7: other", x.stake(2, 0), 4);
        due("7: empty", x.stake(0, 0), 0);
        x.pull(1);
        due("7: live then", x.stake(1, 0), 1);
        due("7: stand then", x.stake(1, 1), 1);
        due("7: no stake", x.stake(3, 0), -1);
        due("7: below 0", x.stake(-1, 0), -1);
        due("7: another what", x.stake(1, 2), -1);
        due("7: what below 0", x.stake(1, -1), -1);
    }

    private static void standing() {
        HedgeRecord x = Checks.told("plant p life 5;topic t;bill a of p at 1;bill b of p at 1 amends a;bill c of p at 2 amends b;"
            + "bill d of p at 0 repeals b;bill e of p at 0 repeals d;");
        due("9: a repealed one that lives still repeals", x.stands(), 0b10001);
        x.pull(3);
        due("9: what was repealed stands again", x.stands(), 0b10111);
        x.pull(0);
        due("9: what amends falls, and what amends that", x.stands(), 0b10000);
        due("9: they live", x.living(0), 0b10110);
    }

    private static void reading() {
        HedgeRecord x = Checks.told("stakes 4;plant p life 5;topic s;topic t;"
            + "bill a of p at 2 says t 4;bill b of p at 1 says t 7;bill c of p at 3 says t 2 amends b;"
            + "bill d of p at 0 says t 9 amends b;bill e of p at 2 says t -1 amends a;");
        due("8: by stakes, then by numbers", x.law(1), 5);
        due("8: nothing said", x.law(0), 0);
        due("8: no topic", x.law(2), -1000);
        due("8: below 0", x.law(-1), -1000);
        x.pull(0);
        due("8: amending what falls says nothing", x.law(1), 9);
        x.pull(1);
        due("8: nothing stands", x.law(1), 0);
        HedgeRecord y = Checks.told("stakes 2;plant p life 5;topic s;topic t;bill a of p at 1 says s 3;bill b of p at 0 says t 5 amends a;");
        due("8: what amends adds to 0", y.law(1), 5);
        for (int i = 0; i < 10; i++) {
            y.lay(1, 0, 1, 9, 0);
        }
        due("8: no bounds", y.law(1), 95);
        HedgeRecord z = Checks.told("stakes 2;plant p life 5;topic t;bill a of p at 1 says t 3;bill b of p at 1 says t 5;");
        due("8: at one stake the higher number is last", z.law(0), 5);
        z.repeal(0, 0, 1);
        due("8: a repealed one says nothing", z.law(0), 3);
    }

    private static void falling() {
        HedgeRecord x = Checks.told("plant p life 5;topic t;bill a of p at 1;bill b of p at 1 amends a;bill c of p at 2 amends b;"
            + "bill d of p at 0 repeals c;bill e of p at 3;");
        due("10: with what amends it", x.falls(0), 0b00011);
        due("10: one in the middle", x.falls(1), 0b00010);
        due("10: one that does not stand", x.falls(2), 0);
        due("10: one that repeals", x.falls(3), 0b01000);
        due("10: alone", x.falls(4), 0b10000);
        due("10: none such", x.falls(5), -1);
        due("10: below 0", x.falls(-1), -1);
        x.pull(3);
        due("10: the whole chain", x.falls(0), 0b00111);
        due("10: one that does not live", x.falls(3), 0);
        due("10: nothing was done", x.stands(), 0b10111);
    }

    private static final String CLASHES = "stakes 3;plant p life 5;topic s;topic t;bill a of p at 0 says t 1;bill b of p at 1 says t 2;"
        + "bill c of p at 2 says t 2;bill d of p at 0 says s 1;bill e of p at 0 says t 5 amends a;bill f of p at 0;";

    private static void clashing() {
        HedgeRecord x = Checks.told(CLASHES);
        due("22: twos", x.clashes(), 2);
        x.lay(0, 0, 1, 3, -1);
        due("22: three more", x.clashes(), 5);
        x.repeal(0, 0, 6);
        due("22: a repealed one clashes with none", x.clashes(), 2);
        x.pull(0);
        due("22: like ones do not clash", x.clashes(), 0);
        due("22: empty", new HedgeRecord().clashes(), 0);
    }

    private static void weeding() {
        HedgeRecord x = Checks.told(CLASHES);
        due("23: how many", x.weed(0), 1);
        due("23: which", x.weed(1), 1);
        due("23: another what", x.weed(2), -1);
        due("23: what below 0", x.weed(-1), -1);
        due("23: nothing was done", x.clashes(), 2);
        x.pull(2);
        due("23: the least set", x.weed(1), 1);
        HedgeRecord y = Checks.told("stakes 2;plant p life 5;topic t;bill a of p at 0 says t 1;bill b of p at 0 says t 2 repeals a;"
            + "bill c of p at 0 says t 3;");
        due("23: one that is no longer repealed clashes", y.weed(0), 1);
        due("23: so the other is pulled up", y.weed(1), 4);
        y.lay(0, 0, 0, 3, -1);
        due("23: two at least", y.weed(0), 2);
        due("23: of which the least set", y.weed(1), 0b0011);
        HedgeRecord z = Checks.told("plant p life 1;topic t;");
        for (int i = 0; i < 12; i++) {
            z.lay(0, 0, 0, i - 4, -1);
        }
        due("23: all but one", z.weed(0), 11);
        due("23: the last stays", z.weed(1), 2047);
        HedgeRecord w = Checks.told("plant p life 1;topic t;bill a of p at 0 says t 1;bill b of p at 0 says t 1;");
        due("23: none clash", w.weed(0), 0);
        due("23: none are pulled up", w.weed(1), 0);
        due("23: empty", new HedgeRecord().weed(0), 0);
        due("23: empty set", new HedgeRecord().weed(1), 0);
    }

    private static void placing() {
        HedgeRecord x = Checks.told("stakes 5;plant p life 6;plant q life 1;topic s;topic t;bill a of p at 1 says s 3;"
            + "bill b of p at 3 says s 2 amends a;");
        due("24: behind all that say something", x.places(0, 0, 7), 0b11000);
        due("24: what is so already, before and behind", x.places(1, 0, 5), 0b11001);
        due("24: of another topic anywhere", x.places(0, 1, -9), 0b11111);
        due("24: no plant", x.places(2, 0, 1), -1);
        due("24: plant below 0", x.places(-1, 0, 1), -1);
        due("24: no topic", x.places(0, 2, 1), -1);
        due("24: topic below 0", x.places(0, -1, 1), -1);
        due("24: too much", x.places(0, 0, 10), -1);
        due("24: too little", x.places(0, 0, -10), -1);
        x.pull(0);
        due("24: with what fell", x.places(0, 0, 7), 0b11111);
        x.undo();
        for (int i = 2; i < 11; i++) {
            x.lay(0, 0, 1, 0, -1);
        }
        due("24: one more", x.places(0, 0, 7), 0b11000);
        x.lay(0, 0, 1, 0, -1);
        due("24: twelve", x.places(0, 0, 7), -1);
        x.undo();
        due("24: does not disturb what is redone", x.places(0, 0, 7), 0b11000);
        CHECKS.due("24: redo", x.redo(), true);
        due("24: topic of what is redone", x.bill(11, 4), 1);
    }
}
