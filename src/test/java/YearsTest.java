/** Promises 15, 18 to 21: what a formula comes to, frost, and looking ahead. */
public final class YearsTest {
    private static final Checks CHECKS = new Checks();

    public static void main(String[] args) {
        formulas();
        bounds();
        neighbours();
        frost();
        will();
        lapse();
        dies();
        living();
        CHECKS.finish();
    }

    private static void due(String call, long got, long want) {
        CHECKS.due(call, got, want);
    }

    /** A bill of life 50 and age 3 at stake 2, with one neighbour, in year 3, grows by a formula. */
    private static void grows(String formula, int more) {
        HedgeRecord x = Checks.told("stakes 5;plant p life 50;plant n life 50;bill a of p at 2;bill b of n at 3;"
            + "grow (year>2)*(stake=2)*(" + formula + ");");
        x.year();
        x.year();
        x.year();
        x.year();
        due("15: grow " + formula, x.bill(0, 0) - 50, more);
    }

    private static void formulas() {
        grows("7", 7);
        grows("life/10", 5);
        grows("age", 3);
        grows("stake", 2);
        grows("near", 1);
        grows("year", 3);
        grows("2+3*4", 14);
        grows("(2+3)*4", 20);
        grows("20-3-4", 13);
        grows("40/4/5", 2);
        grows("7-0-10", -3);
        grows("(0-7)/2", -3);
        grows("(0-7)%2", -1);
        grows("17%5", 2);
        grows("17%(0-5)", 2);
        grows("5/0", 0);
        grows("5%0", 0);
        grows("1<2", 1);
        grows("2<2", 0);
        grows("3>2", 1);
        grows("2>2", 0);
        grows("2=2", 1);
        grows("2=3", 0);
        grows("1+1=2", 1);
        grows("5 and 7", 1);
        grows("5 and 0", 0);
        grows("1 and 2", 1);
        grows("20-3*4", 8);
        grows("10+17%5", 12);
        grows("7%4*2", 6);
        grows("2*7/3", 4);
        grows("1+2<2+2", 1);
        grows("3=1 or 4>3 and 2", 1);
        grows("0 or 7", 1);
        grows("0 or 0", 0);
        grows("not 0", 1);
        grows("not 8", 0);
        grows("not 2<1", 1);
        grows("not not 8", 1);
        grows("not 0 and 0", 0);
        grows("not (0 and 0)", 1);
        grows("1 or 1 and 0", 1);
        grows("(1 or 1) and 0", 0);
        grows("0 and 0 or 1", 1);
        grows("0-1 and 1", 1);
        grows("9999*9999*9999*9999", 49);
        grows("9999*9999*9999", -50);
    }

    private static void bounds() {
        HedgeRecord x = Checks.told("plant p life 50;bill a of p at 2;grow 0-9999;");
        due("15: 0 at least", x.year(), 1);
        due("15: life", x.bill(0, 0), 0);
        HedgeRecord y = Checks.told("plant p life 50;bill a of p at 2;grow 9999;");
        y.year();
        due("15: 99 at most", y.bill(0, 0), 99);
        // 2147483647 more than 50 wraps to below 0.
        HedgeRecord z = Checks.told("plant p life 50;bill a of p at 2;grow 8192*8192*32-1;");
        z.year();
        due("15: the sum wraps", z.bill(0, 0), 0);
        HedgeRecord w = Checks.told("plant p life 50;bill a of p at 2;grow (8192*8192*32)/(0-1);");
        w.year();
        due("15: the least number by -1", w.bill(0, 0), 0);
        HedgeRecord v = Checks.told("plant p life 50;bill a of p at 2;grow (8192*8192*32)%(0-1)+3;");
        v.year();
        due("15: its rest", v.bill(0, 0), 53);
        HedgeRecord t = Checks.told("plant p life 50;bill a of p at 2;grow not 0;");
        t.year();
        due("15: a not alone", t.bill(0, 0), 51);
        HedgeRecord u = Checks.told("plant p life 50;bill a of p at 2;");
        u.year();
        due("15: not told", u.bill(0, 0), 50);
    }

    private static void neighbours() {
        HedgeRecord x = Checks.told("stakes 6;plant p life 9;bill a of p at 2;bill b of p at 2;bill c of p at 1;bill d of p at 3;"
            + "bill e of p at 4;bill f of p at 0;grow near;");
        x.year();
        int[] wanted = {12, 12, 12, 12, 10, 10};
        for (int b = 0; b < wanted.length; b++) {
            due("15: near of " + b, x.bill(b, 0), wanted[b]);
        }
        // The first one dies of having a neighbour, so that the second has none.
        HedgeRecord y = Checks.told("stakes 2;plant p life 9;bill a of p at 0;bill b of p at 0;grow 0-near*20;");
        due("15: as it is then", y.year(), 1);
        due("15: the second lives", y.bill(1, 0), 9);
        HedgeRecord z = Checks.told("stakes 2;plant p life 9;bill a of p at 0;grow age*10-life+year;");
        z.year();
        z.year();
        z.year();
        due("15: a dead one does not grow", z.bill(0, 0), 0);
    }

    private static void frost() {
        // Seeds from 0: 71, 798, 397, 460, 91: rests by 100: 71, 98, 97, 60, 91.
        HedgeRecord x = Checks.told("plant p life 20;plant h life 20 hardy;bill a of p at 0;bill b of h at 0;frost 97 of 3;");
        int[] wanted = {17, 17, 17, 14, 11};
        int[] seeds = {71, 798, 397, 460, 91};
        for (int i = 0; i < wanted.length; i++) {
            x.year();
            due("15: frost less than told, year " + i, x.bill(0, 0), wanted[i]);
            due("15: hardy, year " + i, x.bill(1, 0), 20);
            due("15: seed", x.about(6), seeds[i]);
        }
        HedgeRecord y = Checks.told("plant p life 20;bill a of p at 0;frost 98 of 99;");
        y.year();
        due("15: 0 at least", y.bill(0, 0), 0);
        HedgeRecord z = Checks.told("plant p life 20;bill a of p at 0;draw 29;");
        z.year();
        due("15: no frost if not told", z.bill(0, 0), 20);
    }

    private static final String FADES = "stakes 4;plant p life 6;plant q life 2;topic s;topic t;bill a of p at 0 says s 1;"
        + "bill b of q at 1 says s 5;bill c of p at 2 says t 1;grow 0-1+stake/2;";

    private static void will() {
        HedgeRecord x = Checks.told(FADES);
        int[] wanted = {5, 5, 1, 1, 1, 1, 0};
        for (int n = 0; n < wanted.length; n++) {
            due("18: will 0 " + n, x.will(0, n), wanted[n]);
        }
        due("18: most years", x.will(1, 60), 1);
        due("18: too many", x.will(0, 61), -1000);
        due("18: below 0", x.will(0, -1), -1000);
        due("18: no topic", x.will(2, 0), -1000);
        due("18: topic below 0", x.will(-1, 0), -1000);
        due("18: nothing is done", x.about(5), 0);
        due("18: no act", x.about(8), 0);
        x.year();
        due("18: from now", x.will(0, 1), 1);
    }

    private static void lapse() {
        HedgeRecord x = Checks.told(FADES);
        due("19: lapse", x.lapse(0), 2);
        due("19: never", x.lapse(1), -1);
        due("19: no topic", x.lapse(2), -1);
        due("19: below 0", x.lapse(-1), -1);
        due("19: nothing is done", x.about(5), 0);
        HedgeRecord y = Checks.told("plant p life 60;plant q life 61;topic s;topic t;bill a of p at 0 says s 1;bill b of q at 0 says t 1;grow 0-1;");
        due("19: 60 are enough", y.lapse(0), 60);
        due("19: 60 are not enough", y.lapse(1), -1);
        y.year();
        due("19: now they are", y.lapse(1), 60);
    }

    private static void dies() {
        HedgeRecord x = Checks.told(FADES);
        due("20: dies", x.dies(0), 6);
        due("20: early", x.dies(1), 2);
        due("20: never", x.dies(2), -1);
        due("20: none such", x.dies(3), -1);
        due("20: below 0", x.dies(-1), -1);
        x.pull(2);
        due("20: now", x.dies(2), 0);
        HedgeRecord y = Checks.told("plant p life 60;plant q life 61;bill a of p at 0;bill b of q at 0;grow 0-1;");
        due("20: 60 are enough", y.dies(0), 60);
        due("20: 60 are not enough", y.dies(1), -1);
        due("20: nothing is done", y.about(7), 121);
    }

    private static void living() {
        HedgeRecord x = Checks.told(FADES);
        int[] wanted = {7, 7, 5, 5, 5, 5, 4, 4};
        for (int n = 0; n < wanted.length; n++) {
            due("21: living " + n, x.living(n), wanted[n]);
        }
        due("21: most years", x.living(60), 4);
        due("21: too many", x.living(61), -1);
        due("21: below 0", x.living(-1), -1);
        due("21: nothing is done", x.about(5), 0);
    }
}
