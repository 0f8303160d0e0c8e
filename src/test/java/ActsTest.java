/** Promises 11 to 17, 40 to 42: acts, undoing and redoing them, images. */
public final class ActsTest {
    private static final Checks CHECKS = new Checks();
    private static final String TEXT = "stakes 4;plant p life 5;plant q life 9 hardy;topic s;topic t;"
        + "bill a of p at 1 says s 4;bill b of q at 2 says t 2;frost 30 of 2;draw 5;";

    public static void main(String[] args) {
        laying();
        repealing();
        pulling();
        trimming();
        years();
        undoing();
        fortyActs();
        redoing();
        images();
        about();
        CHECKS.finish();
    }

    private static void due(String call, long got, long want) {
        CHECKS.due(call, got, want);
    }

    private static void laying() {
        HedgeRecord x = Checks.told(TEXT);
        x.year();
        due("11: lay", x.lay(3, 1, 1, -9, 1), 2);
        int[] wanted = {9, 0, 3, 1, 1, -9, 1, -1, 1, 0};
        for (int what = 0; what < 10; what++) {
            due("11: bill 2 " + what, x.bill(2, what), wanted[what]);
        }
        int acts = x.about(8);
        int[][] wrong = {{-1, 0, 0, 0, -1}, {4, 0, 0, 0, -1}, {0, -1, 0, 0, -1}, {0, 2, 0, 0, -1}, {0, 0, -1, 0, -1},
            {0, 0, 2, 0, -1}, {0, 0, 0, 10, -1}, {0, 0, 0, -10, -1}, {0, 0, 0, 0, -2}, {0, 0, 0, 0, 3}};
        for (int[] w : wrong) {
            due("11: can't be", x.lay(w[0], w[1], w[2], w[3], w[4]), -1);
        }
        due("11: nothing done", x.about(0), 3);
        due("11: no act", x.about(8), acts);
        for (int i = 3; i < 12; i++) {
            due("11: lay " + i, x.lay(0, 0, 0, 9, -1), i);
        }
        due("11: there are 12", x.lay(0, 0, 0, 9, -1), -1);
        due("12: there are 12", x.repeal(0, 0, 0), -1);
        x.pull(4);
        due("11: a dead one counts", x.lay(0, 0, 0, 9, -1), -1);
        due("11: without plants", new HedgeRecord().lay(0, 0, 0, 0, -1), -1);
        HedgeRecord y = Checks.told(TEXT);
        y.pull(0);
        due("11: one that is dead can be amended", y.lay(0, 0, 0, 9, 0), 2);
        due("11: but then it does not stand", y.stands(), 2);
    }

    private static void repealing() {
        HedgeRecord x = Checks.told(TEXT);
        due("12: repeal", x.repeal(0, 1, 0), 2);
        int[] wanted = {9, 0, 0, 1, -1, 0, -1, 0, 1, 0};
        for (int what = 0; what < 10; what++) {
            due("12: bill 2 " + what, x.bill(2, what), wanted[what]);
        }
        due("12: repealed", x.bill(0, 9), 1);
        due("12: stake", x.repeal(4, 0, 0), -1);
        due("12: stake below 0", x.repeal(-1, 0, 0), -1);
        due("12: plant", x.repeal(0, 2, 0), -1);
        due("12: plant below 0", x.repeal(0, -1, 0), -1);
        due("12: bill", x.repeal(0, 0, 3), -1);
        due("12: bill below 0", x.repeal(0, 0, -1), -1);
        due("12: nothing done", x.about(8), 1);
        due("12: one that repeals is repealed", x.repeal(0, 0, 2), 3);
        due("12: and still repeals", x.bill(0, 9), 1);
    }

    private static void pulling() {
        HedgeRecord x = Checks.told(TEXT);
        due("13: pull", x.pull(1), 9);
        due("13: life", x.bill(1, 0), 0);
        due("13: again", x.pull(1), -1);
        due("13: none such", x.pull(2), -1);
        due("13: below 0", x.pull(-1), -1);
        due("13: one act", x.about(8), 1);
        HedgeRecord y = Checks.told("plant p life 1;bill a of p at 0;");
        due("13: the least life", y.pull(0), 1);
    }

    private static void trimming() {
        HedgeRecord x = Checks.told(TEXT);
        x.lay(1, 1, 0, 1, -1);
        due("14: one dies", x.trim(1, 5), 1);
        due("14: life", x.bill(0, 0), 0);
        due("14: life of the other", x.bill(2, 0), 4);
        due("14: elsewhere", x.bill(1, 0), 9);
        due("14: none dies", x.trim(1, 3), 0);
        due("14: it dies", x.trim(1, 99), 1);
        due("14: none lives there", x.trim(1, 1), -1);
        due("14: empty", x.trim(0, 1), -1);
        due("14: by 0", x.trim(2, 0), -1);
        due("14: by 100", x.trim(2, 100), -1);
        due("14: below 0", x.trim(2, -1), -1);
        due("14: no stake", x.trim(4, 1), -1);
        due("14: stake below 0", x.trim(-1, 1), -1);
        due("14: acts", x.about(8), 4);
        HedgeRecord y = Checks.told("stakes 2;plant p life 2;bill a of p at 0;bill b of p at 0;");
        due("14: two die", y.trim(0, 2), 2);
    }

    private static void years() {
        HedgeRecord x = Checks.told("stakes 2;plant p life 3;plant h life 3 hardy;bill a of p at 0;bill b of h at 0;frost 100 of 3;draw 1;");
        due("15: one dies of frost", x.year(), 1);
        due("15: the hardy one does not", x.bill(1, 0), 3);
        due("15: year", x.about(5), 1);
        due("15: seed", x.about(6), 208);
        due("15: none dies", x.year(), 0);
        due("15: seed", x.about(6), 567);
        due("15: age", x.bill(1, 1), 2);
        due("15: age of one that died in its first year", x.bill(0, 1), 1);
        due("15: acts", x.about(8), 2);
        HedgeRecord y = new HedgeRecord();
        for (int i = 1; i <= 505; i++) {
            y.year();
        }
        due("15: long", y.about(5), 505);
    }

    private static void undoing() {
        HedgeRecord x = Checks.told(TEXT);
        CHECKS.due("16: none", x.undo(), false);
        x.year();
        x.lay(0, 0, 1, 3, 1);
        x.trim(2, 4);
        x.pull(0);
        CHECKS.due("16: pull", x.undo(), true);
        due("16: life", x.bill(0, 0), 5);
        CHECKS.due("16: trim", x.undo(), true);
        due("16: life", x.bill(1, 0), 9);
        CHECKS.due("16: lay", x.undo(), true);
        due("16: bills", x.about(0), 2);
        due("16: none such", x.bill(2, 0), -100);
        due("16: can be undone", x.about(8), 1);
        due("16: can be redone", x.about(9), 3);
        CHECKS.due("16: year", x.undo(), true);
        due("16: year", x.about(5), 0);
        due("16: seed", x.about(6), 5);
        due("16: age", x.bill(0, 1), 0);
        CHECKS.due("16: no more", x.undo(), false);
        x.pull(7);
        CHECKS.due("17: what does nothing is no act", x.redo(), true);
        due("17: year", x.about(5), 1);
    }

    private static void fortyActs() {
        HedgeRecord x = Checks.told("plant p life 99;bill a of p at 0;");
        for (int i = 0; i < 50; i++) {
            x.trim(0, 1);
        }
        due("16: 40 are kept", x.about(8), 40);
        int undone = 0;
        while (undone < 60 && x.undo()) {
            undone++;
        }
        due("16: undone", undone, 40);
        due("16: the oldest are gone", x.bill(0, 0), 89);
        due("17: can be redone", x.about(9), 40);
        int redone = 0;
        while (redone < 60 && x.redo()) {
            redone++;
            due("17: life", x.bill(0, 0), 89 - redone);
        }
        due("17: redone", redone, 40);
    }

    private static void redoing() {
        HedgeRecord x = Checks.told(TEXT);
        CHECKS.due("17: none", x.redo(), false);
        x.lay(3, 1, 1, 7, -1);
        x.year();
        x.undo();
        x.undo();
        CHECKS.due("17: lay", x.redo(), true);
        due("17: what it says", x.bill(2, 5), 7);
        due("17: law", x.law(1), 7);
        CHECKS.due("17: year", x.redo(), true);
        due("17: year", x.about(5), 1);
        CHECKS.due("17: no more", x.redo(), false);
        x.undo();
        x.undo();
        x.pull(0);
        CHECKS.due("17: another act", x.redo(), false);
        due("17: redone", x.about(9), 0);
        due("17: another bill there", x.lay(1, 0, 0, 1, -1), 2);
        due("17: it is the new one", x.bill(2, 5), 1);
    }

    private static void images() {
        HedgeRecord x = Checks.told(TEXT);
        due("40: below 0", x.image(-1), -1);
        due("40: beyond", x.image(3), -1);
        due("41: nothing was kept", x.back(0), -1);
        due("41: below 0", x.back(-1), -1);
        due("41: beyond", x.back(3), -1);
        x.lay(3, 1, 1, 7, 1);
        x.year();
        due("40: the year", x.image(2), 1);
        int seed = x.about(6);
        x.undo();
        x.undo();
        x.lay(2, 0, 0, -3, -1);
        x.year();
        x.year();
        x.pull(1);
        due("40: another box", x.image(0), 2);
        x.undo();
        due("41: the year", x.back(2), 1);
        due("41: seed", x.about(6), seed);
        int[] wanted = {9, 1, 3, 1, 1, 7, 1, -1, 1, 0};
        for (int what = 0; what < 10; what++) {
            due("41: bill 2 " + what, x.bill(2, what), wanted[what]);
        }
        due("41: life", x.bill(1, 0), 9);
        CHECKS.due("41: no acts", x.undo(), false);
        CHECKS.due("41: none undone", x.redo(), false);
        x.pull(0);
        due("41: can be done again", x.back(2), 1);
        due("41: life", x.bill(0, 0) > 0 ? 1 : 0, 1);
        due("41: the other box", x.back(0), 2);
        due("41: its bill", x.bill(2, 5), -3);
        due("41: pulled up", x.bill(1, 0), 0);
        due("41: law in its order", x.law(0), -3);
        x.image(0);
        x.ring(0, 1, true);
        x.later(3);
        x.game();
        due("41: again", x.back(0), 2);
        due("41: rings stay", x.about(10), 1);
        due("41: the time stays", x.about(11), 3);
    }

    private static void about() {
        HedgeRecord x = Checks.told(TEXT.replace("frost", "party u;party v;party w;grow 1+(life);frost"));
        x.feed(0, 0, 0, 0, 0);
        x.later(7);
        x.ring(0, 1, true);
        x.ring(1, 0, false);
        x.untell(0);
        x.pull(0);
        x.year();
        x.year();
        x.undo();
        x.plan(2, 1);
        int[] wanted = {2, 4, 2, 2, 3, 1, 756, 19, 2, 1, 2, 7, 20, 3, 2};
        for (int what = 0; what < wanted.length; what++) {
            due("42: about " + what, x.about(what), wanted[what]);
        }
        due("42: another", x.about(15), -1);
        due("42: below 0", x.about(-1), -1);
    }
}
