/** Promises 25 to 33: gaps and walks, trimming over winters, the game of repeal. */
public final class StakesTest {
    private static final Checks CHECKS = new Checks();

    public static void main(String[] args) {
        gaps();
        closes();
        walks();
        plans();
        planTies();
        joys();
        games();
        lying();
        CHECKS.finish();
    }

    private static void due(String call, long got, long want) {
        CHECKS.due(call, got, want);
    }

    private static void gaps() {
        HedgeRecord x = Checks.told("stakes 10;plant p life 5;bill a of p at 2;bill b of p at 6;bill c of p at 6 repeals a;");
        due("25: gaps", x.gaps(), 0b1110111011);
        due("26: widest", x.widest(), 3);
        x.pull(2);
        due("25: one still lives", x.gaps(), 0b1110111011);
        x.pull(1);
        due("25: none lives", x.gaps(), 0b1111111011);
        due("26: widest", x.widest(), 7);
        HedgeRecord y = Checks.told("stakes 12;");
        due("25: all", y.gaps(), 4095);
        due("26: all", y.widest(), 12);
        HedgeRecord z = Checks.told("stakes 2;plant p life 5;bill a of p at 0;bill b of p at 1;");
        due("25: no gap", z.gaps(), 0);
        due("26: no gap", z.widest(), 0);
        due("27: no gap", z.closes(1), 0);
    }

    private static void closes() {
        HedgeRecord x = Checks.told("stakes 12;plant p life 5;bill a of p at 5;");
        int[] wanted = {-1, 11, 5, 3, 2, 2, 1, 0, 0, 0, 0, 0, 0, -1};
        for (int width = 0; width < wanted.length; width++) {
            due("27: closes " + width, x.closes(width), wanted[width]);
        }
        due("27: below 0", x.closes(-3), -1);
        HedgeRecord y = Checks.told("stakes 12;");
        due("27: all stakes", y.closes(12), 1);
        due("27: five", y.closes(5), 2);
        due("27: wider than the hedge", new HedgeRecord().closes(12), 0);
    }

    private static void walks() {
        HedgeRecord x = Checks.told("stakes 12;");
        due("28: one way", x.walk(0, 0b100000000000), 11);
        due("28: both ways, the nearer end first", x.walk(3, 0b100000000001), 14);
        due("28: the nearer end above", x.walk(9, 0b100000000001), 13);
        due("28: both ways, far from 0", x.walk(4, 0b1000001000), 7);
        due("28: itself", x.walk(4, 1 << 4), 0);
        due("28: those between", x.walk(4, 0b11111), 4);
        due("28: none", x.walk(4, 0), 0);
        due("28: no such stake in the set", x.walk(4, 1 << 12), -1);
        due("28: below 0", x.walk(4, -1), -1);
        due("28: the highest bit", x.walk(4, Integer.MIN_VALUE), -1);
        due("28: no stake", x.walk(12, 1), -1);
        due("28: no stake, none to come to", x.walk(12, 0), -1);
        due("28: stake below 0", x.walk(-1, 1), -1);
    }

    private static void plans() {
        // Trimming the repealing one to death lets the three others stand.
        HedgeRecord x = Checks.told("stakes 3;plant p life 9;plant w life 4;topic t;bill a of p at 0;bill b of p at 0 amends a;"
            + "bill c of p at 0 amends b;bill d of w at 2 repeals a;");
        due("29: one winter", x.plan(1, 4), 3);
        due("29: which", x.lies(0), 2);
        due("29: no more", x.lies(1), -2);
        due("29: too little", x.plan(1, 3), 1);
        due("29: none then", x.lies(0), -1);
        due("29: two winters", x.plan(2, 2), 3);
        due("29: both", x.lies(0), 2);
        due("29: both", x.lies(1), 2);
        due("29: three winters", x.plan(3, 2), 3);
        due("29: none first", x.lies(0), -1);
        due("29: then both", x.lies(1), 2);
        due("29: then both", x.lies(2), 2);
        due("29: nothing is done", x.about(7), 31);
        due("29: no act", x.about(8), 0);
        int[][] wrong = {{0, 1}, {4, 1}, {-1, 1}, {1, 0}, {1, 100}, {1, -1}};
        for (int[] w : wrong) {
            x.plan(1, 4);
            due("29: can't be", x.plan(w[0], w[1]), -1);
            due("29: nothing lies there", x.about(14), 0);
            due("29: nothing lies", x.lies(0), -2);
        }
        due("29: by 99", x.plan(1, 99), 3);
        // A strong one crowds out its neighbours, if it is let.
        HedgeRecord z = Checks.told("stakes 3;plant p life 5;plant w life 20;bill a of w at 1;bill b of p at 0;bill c of p at 2;"
            + "grow 0-(near>0)*9;");
        due("29: without trimming", Integer.bitCount(z.living(1)), 1);
        due("29: the first bill is trimmed", z.plan(1, 20), 2);
        due("29: at its stake", z.lies(0), 1);
        HedgeRecord y = new HedgeRecord();
        due("29: empty", y.plan(3, 1), 0);
        due("29: three lie there", y.about(14), 3);
        due("29: none", y.lies(2), -1);
    }

    private static void planTies() {
        // Either of two crowded stakes may be trimmed; one less neighbour lets the others live.
        HedgeRecord x = Checks.told("stakes 4;plant p life 2;bill a of p at 1;bill b of p at 2;bill c of p at 3;"
            + "grow 0-(near>1)*9;");
        due("29: the middle one dies, the others stand", x.plan(1, 2), 2);
        due("29: none", x.lies(0), -1);
        HedgeRecord y = Checks.told("stakes 4;plant p life 2;plant q life 3;bill a of q at 0;bill b of p at 1;bill c of q at 2;"
            + "grow (year=1)*(0-near*5);");
        due("29: two winters", y.plan(2, 3), 2);
        int first = y.lies(0);
        int second = y.lies(1);
        due("29: none first", first, -1);
        due("29: the middle is trimmed", second, 1);
        // What repeals grows stronger: trimmed at once it dies of it, later only of two trims.
        HedgeRecord z = Checks.told("stakes 3;plant p life 9;plant w life 2;bill a of p at 0;bill b of p at 0 amends a;"
            + "bill c of p at 0 amends a;bill d of w at 2 repeals a;grow (stake=2)*2;");
        due("29: three winters", z.plan(3, 3), 3);
        due("29: least often ahead of the first", z.lies(0), 2);
        due("29: then none", z.lies(1), -1);
        due("29: then none", z.lies(2), -1);
    }

    private static final String GAME = "stakes 3;plant p life 5;topic s;topic t;bill a of p at 0 says s 3;bill b of p at 1 says s 5;"
        + "bill c of p at 2 says t 4;party r;party g;party h;wants r s 3 by 1;wants g s 5 by 2;wants g t 0 by 1;wants h t 4 by 9;";

    private static void joys() {
        HedgeRecord x = Checks.told(GAME);
        due("30: joy of r", x.joy(0), -2);
        due("30: joy of g", x.joy(1), -4);
        due("30: joy of h", x.joy(2), 0);
        due("30: none such", x.joy(3), 1);
        due("30: below 0", x.joy(-1), 1);
        due("31: saddest", x.saddest(), 1);
        x.pull(2);
        due("30: joy of h then", x.joy(2), -36);
        due("31: saddest then", x.saddest(), 2);
        HedgeRecord y = Checks.told("party a;party b;topic t;wants a t 1 by 3;wants b t 3 by 1;");
        due("31: of like ones the first", y.saddest(), 0);
        HedgeRecord z = Checks.told("party a;party b;topic t;wants b t 3 by 1;");
        due("30: who wants nothing", z.joy(0), 0);
        due("31: the other", z.saddest(), 1);
        due("31: without parties", new HedgeRecord().saddest(), -1);
        HedgeRecord w = Checks.told("stakes 2;plant p life 5;topic t;bill a of p at 0 says t 2;bill b of p at 1 says t 3 amends a;"
            + "party r;wants r t 0 by 1;");
        due("30: with what amends", w.joy(0), -5);
        w.pull(0);
        due("30: nothing is said any more", w.joy(0), 0);
    }

    private static void games() {
        HedgeRecord x = Checks.told(GAME);
        due("32: two are pulled up", x.game(), 2);
        due("32: r pulls up b", x.lies(0), 1);
        due("32: g pulls up c", x.lies(1), 2);
        due("32: h can do nothing", x.lies(2), -1);
        due("32: three lie there", x.about(14), 3);
        due("32: nothing is done", x.about(8), 0);
        due("32: all live", x.living(0), 7);
        // What the second one will do makes the first one do it another way.
        HedgeRecord y = Checks.told("stakes 4;plant p life 5;topic t;bill a of p at 0 says t 1;bill b of p at 1 says t 6;"
            + "bill c of p at 2 says t 3;party r;party g;wants r t 6 by 1;wants g t 3 by 1;");
        due("32: all knowing that", y.game(), 0);
        HedgeRecord z = Checks.told("stakes 4;plant p life 5;topic t;bill a of p at 0 says t 4;bill b of p at 1 says t 4;"
            + "bill c of p at 2 says t 0 repeals b;bill d of p at 3 says t 9;party r;wants r t 4 by 1;");
        due("32: one helps", z.game(), 1);
        due("32: without d it is 0, nearer to 4 than 9 is", z.lies(0), 3);
        HedgeRecord u = Checks.told("stakes 3;plant p life 5;topic t;bill a of p at 0 says t 5;bill b of p at 1 says t 1 amends a;"
            + "bill c of p at 2 says t 1 amends a;party r;wants r t 6 by 1;");
        due("32: one of two like ones", u.game(), 1);
        due("32: of like ones the first", u.lies(0), 1);
        HedgeRecord w = Checks.told("stakes 2;plant p life 5;topic t;bill a of p at 0 says t 1;bill b of p at 1 says t 2;party r;wants r t 2 by 1;");
        due("32: none, if none is as good", w.game(), 0);
        due("32: none lies there", w.lies(0), -1);
        due("32: one lies there", w.about(14), 1);
        HedgeRecord v = Checks.told("stakes 2;plant p life 5;topic t;bill a of p at 0 says t 1;bill b of p at 1 says t 2 amends a;"
            + "bill c of p at 1 says t 4 amends b;party r;wants r t 1 by 1;");
        due("32: pulling up b takes c along", v.game(), 1);
        due("32: which", v.lies(0), 1);
        v.pull(1);
        due("32: a dead one is not pulled up", v.game(), 0);
        due("32: without parties", new HedgeRecord().game(), 0);
        HedgeRecord o = Checks.told("plant p life 5;topic t;bill a of p at 0 says t 5;party r;party g;wants r t 0 by 1;wants g t 0 by 1;");
        due("32: one is enough", o.game(), 1);
        due("32: the first leaves it to the second", o.lies(0), -1);
        due("32: which pulls up the first bill", o.lies(1), 0);
    }

    private static void lying() {
        HedgeRecord x = Checks.told(GAME);
        due("33: nothing", x.lies(0), -2);
        x.plan(2, 1);
        due("33: two", x.about(14), 2);
        due("33: below 0", x.lies(-1), -2);
        due("33: beyond", x.lies(2), -2);
        x.game();
        due("33: the latest", x.lies(0), 1);
        due("33: beyond three", x.lies(3), -2);
        x.year();
        x.undo();
        due("33: stays", x.about(14), 3);
        Checks.read(x, "bill");
        due("33: stays behind a fault", x.about(14), 3);
        Checks.read(x, "");
        due("33: a new hedge", x.about(14), 0);
    }
}
