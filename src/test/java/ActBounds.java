/** The bounds of years and acts (==== 2 of the terms, its second part) and of the promises 11 to 17. */
final class ActBounds {
    private static final String TEXT = "stakes 4;plant p life 5;plant q life 9 hardy;topic s;topic t;bill a of p at 1 says s 4;"
        + "bill b of q at 2 says t 2;";

    private final Sentences s;
    private final Twins rich;
    private final Twins full;

    ActBounds(Sentences s) {
        this.s = s;
        rich = new Twins(s, Twins::rich);
        full = new Twins(s, Twins::full);
    }

    void all() {
        eachThatLives();
        growNotTold();
        asTheyWere();
        near();
        yearInts();
        cutAndRest();
        bindings();
        relations();
        sum();
        age();
        seed();
        frost();
        hardy();
        yearGoesUp();
        laid();
        pulledUp();
        trimmed();
        undoRedo();
        tillAnotherAct();
        forty();
        lay();
        layRefused();
        repeal();
        repealRefused();
        pull();
        pullRefused();
        trim();
        trimRefused();
        year();
        yearRefused();
        undo();
        redo();
        actsAreActs();
    }

    /** Life of one bill at stake 3, of life 50 at first, behind one year of this growth. */
    private int grown(String formula) {
        return grown(50, formula);
    }

    private int grown(int life, String formula) {
        HedgeRecord x = s.taken("plant p life " + life + ";bill a of p at 3;grow " + formula + ";");
        x.year();
        return x.bill(0, 0);
    }

    private void eachThatLives() {
        s.of("T2", "A YEAR: BILL by BILL, each that LIVES: its LIFE is more by what comes of grow");
        HedgeRecord x = s.taken("plant p life 1;bill a of p at 0;bill b of p at 0;bill c of p at 0;grow 1;");
        x.pull(1);
        x.year();
        s.dueRow("lives", Checks.row(3, b -> x.bill(b, 0)), 2, 0, 2);
        s.dueRow("ages", Checks.row(3, b -> x.bill(b, 1)), 1, 0, 1);
        HedgeRecord y = new HedgeRecord();
        Checks.read(y, "plant p life 1;topic t;grow 2;");
        for (int i = 0; i < 12; i++) {
            y.lay(i % 8, 0, 0, 0, -1);
        }
        y.year();
        s.due("all twelve", y.about(7), 36);
        s.due("without bills", new HedgeRecord().year(), 0);
    }

    private void growNotTold() {
        s.of("T2", "(0, if it is not told; it may be below 0)");
        HedgeRecord x = s.taken("plant p life 50;bill a of p at 3;");
        x.year();
        s.due("not told", x.bill(0, 0), 50);
        s.due("0", grown("0"), 50);
        s.due("below 0", grown("0-1"), 49);
        s.due("above 0", grown("1"), 51);
    }

    private void asTheyWere() {
        s.of("T2", "by life, age (both as they were), stake,");
        s.due("life", grown("life/5"), 60);
        s.due("age", grown("age"), 50);
        s.due("stake", grown("stake"), 53);
        HedgeRecord x = s.taken("plant p life 10;bill a of p at 0;bill b of p at 7;grow life+age+stake;");
        x.year();
        s.dueRow("in the first year", Checks.row(2, b -> x.bill(b, 0)), 20, 27);
        x.year();
        s.dueRow("in the second", Checks.row(2, b -> x.bill(b, 0)), 41, 62);
    }

    private void near() {
        s.of("T2", "near (how many other BILLS LIVE at its STAKE, and at those beside it, as it is then)");
        HedgeRecord x = s.taken("stakes 12;plant p life 9;bill a of p at 0;bill b of p at 11;bill c of p at 2;"
            + "bill d of p at 9;grow near;");
        x.year();
        s.dueRow("two off is not beside, and the last not beside the first", Checks.row(4, b -> x.bill(b, 0)), 9, 9, 9, 9);
        HedgeRecord y = s.taken("stakes 12;plant p life 9;bill a of p at 0;bill b of p at 1;bill c of p at 10;"
            + "bill d of p at 11;bill e of p at 11;grow near;");
        y.year();
        s.dueRow("at the ends", Checks.row(5, b -> y.bill(b, 0)), 10, 10, 11, 11, 11);
        HedgeRecord z = s.taken("stakes 2;plant p life 1;topic t;grow near;");
        for (int i = 0; i < 12; i++) {
            z.lay(i % 2, 0, 0, 0, -1);
        }
        z.year();
        s.due("eleven others", z.bill(0, 0), 12);
        s.due("eleven others", z.bill(11, 0), 12);
        HedgeRecord w = s.taken("stakes 2;plant p life 9;bill a of p at 0;bill b of p at 1;bill c of p at 0;grow 0-near*9;");
        s.due("one that died earlier in the year is none", w.year(), 2);
        s.dueRow("lives", Checks.row(3, b -> w.bill(b, 0)), 0, 0, 9);
        HedgeRecord v = s.taken("stakes 2;plant p life 9;plant w life 1;bill a of p at 0;bill b of w at 1;"
            + "grow near-1-(stake=1);");
        v.year();
        s.dueRow("one that dies later in the year is one", Checks.row(2, b -> v.bill(b, 0)), 9, 0);
        v.year();
        s.due("and none in the next", v.bill(0, 0), 8);
        HedgeRecord u = s.taken("stakes 2;plant p life 9;bill a of p at 0;bill b of p at 1 repeals a;grow near;");
        u.year();
        s.dueRow("repealed ones live", Checks.row(2, b -> u.bill(b, 0)), 10, 10);
    }

    private void yearInts() {
        s.of("T2", "year (0 at first; ints, wrapping;");
        HedgeRecord x = s.taken("plant p life 10;bill a of p at 0;grow year;");
        int[] wanted = {10, 11, 13, 16};
        for (int year = 0; year < wanted.length; year++) {
            x.year();
            s.due("behind year " + year, x.bill(0, 0), wanted[year]);
        }
        x.undo();
        x.year();
        s.due("the same year again", x.bill(0, 0), 16);
        s.due("2 to the power of 31 is below 0", grown("8192*8192*32<0"), 51);
        s.due("one less is above 0", grown("8192*8192*32-1>0"), 51);
        s.due("and one more is below", grown("8192*8192*32-1+1<0"), 51);
        s.due("2 to the power of 32 is 0", grown("8192*8192*64=0"), 51);
        s.due("the greatest plus the greatest", grown("(8192*8192*32-1)+(8192*8192*32-1)=0-2"), 51);
        s.due("0 less the least is the least", grown("0-8192*8192*32=8192*8192*32"), 51);
        s.due("9999 to the third", grown("9999*9999*9999%47"), 50 - 46);
        s.due("9999 to the fourth", grown("9999*9999*9999*9999%47"), 50 + 13);
        s.due("9999 squared does not wrap", grown("9999*9999/9999-9989"), 50 + 10);
    }

    private void cutAndRest() {
        s.of("T2", "/ cut, % its rest, both by 0: 0;");
        s.due("7/2", grown("7/2"), 53);
        s.due("-7/2", grown("(0-7)/2"), 47);
        s.due("7/-2", grown("7/(0-2)"), 47);
        s.due("-7/-2", grown("(0-7)/(0-2)"), 53);
        s.due("7%2", grown("7%2"), 51);
        s.due("-7%2", grown("(0-7)%2"), 49);
        s.due("7%-2", grown("7%(0-2)"), 51);
        s.due("-7%-2", grown("(0-7)%(0-2)"), 49);
        s.due("1/2", grown("1/2"), 50);
        s.due("-1/2", grown("(0-1)/2"), 50);
        s.due("7/0", grown("7/0"), 50);
        s.due("7%0", grown("7%0"), 50);
        s.due("0/0", grown("0/0"), 50);
        s.due("0%0", grown("0%0"), 50);
        s.due("7/0 is 0, not more", grown("7/0+1"), 51);
        s.due("7%0 is 0, not 7", grown("7%0+1"), 51);
        s.due("by what comes to 0", grown("7/(life-life)+7%age+3"), 53);
        s.due("the least by -1 is the least", grown("8192*8192*32/(0-1)<0"), 51);
        s.due("its rest is 0", grown("8192*8192*32%(0-1)=0"), 51);
        s.due("by 1", grown("7/1+7%1"), 57);
    }

    private void bindings() {
        s.of("T1", "e = both {or both}. both = one {and one}. one = not one | sum [(< | > | =) sum]. sum = term {(+ | -) term}. "
            + "term = unit {(* | / | %) unit}.");
        String[] terms = {"20-3*4", "20-12/4", "20-17%5", "2+3*4", "2+12/4", "2+17%5", "3*4-2", "12/4-2", "17%5-1", "3*4+2",
            "12/4+2", "17%5+1", "2*7/3", "7/3*2", "7%4*2", "2*7%4", "20/3%4", "20%7/2", "20-3-4", "20-3+4", "20+3-4",
            "100/10/2", "100%30%6", "2*3*4"};
        int[] wanted = {8, 17, 18, 14, 5, 4, 10, 1, 1, 14, 5, 3, 4, 4, 6, 2, 2, 3, 13, 21, 19, 5, 4, 24};
        for (int i = 0; i < terms.length; i++) {
            s.due(terms[i], grown(terms[i]), 50 + wanted[i]);
        }
        String[] one = {"1+1=2", "2=1+1", "2<1+2", "1+2>2", "3-1=1*2", "2*2<5", "9>4*2", "0 or 2>1", "1<2 and 2<3",
            "1 or 1 and 0", "0 and 0 or 1", "1 or 0 and 0", "not 1 or 1", "not 2<1", "not 1=2", "not 1-1", "not 0 and 1",
            "not not 1<2", "0 and 1 or 1 and 1", "not 1+0>5"};
        for (String e : one) {
            s.due(e, grown(e), 51);
        }
        String[] zero = {"(1 or 1) and 0", "not (0 or 1)", "not 1 and 0", "not (1 and 1)", "1<2 and 3<2", "not 0 and 0",
            "0 and (0 or 1)", "not 1<2", "(not 0)<1"};
        for (String e : zero) {
            s.due(e, grown(e), 50);
        }
    }

    private void relations() {
        s.of("T2", "relations, and, or, not are 1 or 0, of what is not 0);");
        String[] one = {"1<2", "2>1", "2=2", "0-1<0", "1 and 1", "2 and 9999", "(0-1) and (0-2)", "1 or 0", "0 or 7",
            "0-1 or 0", "5 or 5", "not 0", "not 1<1", "not not 7", "1 and 1 and 1", "0 or 0 or 3", "1 or 0 and 0",
            "not 0 or 0", "(3>2)=1", "8192*8192*32 and 1"};
        for (String e : one) {
            s.due(e + " is 1", grown(e), 51);
        }
        String[] zero = {"2<2", "3<2", "2>2", "2>3", "2=3", "0-2=2", "0 and 1", "1 and 0", "0 and 0", "0 or 0", "not 1",
            "not 7", "not (0-1)", "not not 0", "1 and 1 and 0", "0 and 0 or 0", "not 0 and 0", "not 1 or 0",
            "not 8192*8192*32"};
        for (String e : zero) {
            s.due(e + " is 0", grown(e), 50);
        }
        s.due("they are numbers", grown("(1<2)+(2 and 3)*4+(not 0)*8"), 63);
    }

    private void sum() {
        s.of("T2", "the sum of both (wrapping, too) is 0 at least, 99 at most;");
        s.due("98", grown("48"), 98);
        s.due("99", grown("49"), 99);
        s.due("100", grown("50"), 99);
        s.due("the most that is told", grown("9999"), 99);
        s.due("1", grown("0-49"), 1);
        s.due("0", grown("0-50"), 0);
        s.due("-1", grown("0-51"), 0);
        s.due("99 and 0", grown(99, "0"), 99);
        s.due("99 and 1", grown(99, "1"), 99);
        s.due("1 and -1", grown(1, "0-1"), 0);
        s.due("the greatest that does not wrap", grown(1, "8192*8192*32-1-1"), 99);
        s.due("the least that does", grown(1, "8192*8192*32-1"), 0);
        s.due("50 and the greatest", grown("8192*8192*32-1"), 0);
        s.due("50 and the least", grown("8192*8192*32"), 0);
        HedgeRecord x = s.taken("plant p life 99;bill a of p at 3;grow 0-99;");
        s.due("it died", x.year(), 1);
        s.due("and does not come back", x.year(), 0);
        s.due("with no life", x.bill(0, 0), 0);
    }

    private void age() {
        s.of("T2", "its AGE is 1 more.");
        HedgeRecord x = s.taken("plant p life 2;bill a of p at 3;bill b of p at 0;grow 0-(stake=3);");
        x.year();
        s.dueRow("in the first year", Checks.row(2, b -> x.bill(b, 1)), 1, 1);
        x.year();
        s.dueRow("in the year of its death, too", Checks.row(2, b -> x.bill(b, 1)), 2, 2);
        x.year();
        s.dueRow("but in none behind it", Checks.row(2, b -> x.bill(b, 1)), 2, 3);
        HedgeRecord y = s.taken("plant p life 2;bill a of p at 3;frost 100 of 2;");
        y.year();
        s.due("dead of frost", y.bill(0, 1), 1);
        HedgeRecord z = s.taken("plant p life 2;bill a of p at 3;");
        for (int i = 0; i < 120; i++) {
            z.year();
        }
        s.due("no bound", z.bill(0, 1), 120);
    }

    private void seed() {
        s.of("T2", "Then the SEED (draw, at first) becomes its 137-fold and 71 more, modulo 1,000;");
        int[][] pairs = {{0, 71}, {1, 208}, {6, 893}, {7, 30}, {999, 934}, {817, 0}, {744, 999}};
        for (int[] pair : pairs) {
            HedgeRecord x = s.taken("draw " + pair[0] + ";");
            s.due("at first", x.about(6), pair[0]);
            x.year();
            s.due("behind " + pair[0], x.about(6), pair[1]);
        }
        HedgeRecord y = new HedgeRecord();
        int seed = 0;
        for (int i = 0; i < 60; i++) {
            y.year();
            seed = (seed * 137 + 71) % 1000;
            s.due("year " + i, y.about(6), seed);
        }
    }

    private int frozen(String frost, int draw) {
        HedgeRecord x = s.taken("plant p life 50;bill a of p at 0;draw " + draw + ";frost " + frost + ";");
        x.year();
        return x.bill(0, 0);
    }

    private void frost() {
        s.of("T2", "if its rest by 100 is less than frost tells,");
        s.due("0 is not less than 0", frozen("0 of 9", 17), 50);
        s.due("0 is less than 1", frozen("1 of 9", 17), 41);
        s.due("71 is not less than 71", frozen("71 of 9", 0), 50);
        s.due("71 is less than 72", frozen("72 of 9", 0), 41);
        s.due("99 is not less than 99", frozen("99 of 9", 44), 50);
        s.due("99 is less than 100", frozen("100 of 9", 44), 41);
        // From 1 the seed becomes 208: its rest is 8, though it is far above 50.
        s.due("the rest counts, not the seed", frozen("50 of 9", 1), 41);
        s.due("8 is not less than 8", frozen("8 of 9", 1), 50);
        HedgeRecord x = s.taken("plant p life 50;bill a of p at 0;draw 44;frost 10 of 9;");
        x.year();
        s.due("the new seed counts, not the old one", x.bill(0, 0), 50);
        for (int i = 0; i < 5; i++) {
            x.year();
        }
        int[] seeds = {99, 634, 929, 344, 199, 334};
        s.due("seeds", x.about(6), seeds[5]);
        s.due("none of them freezes", x.bill(0, 0), 50);
    }

    private void hardy() {
        s.of("T2", "each BILL whose PLANT is not hardy loses so much LIFE as is told (0 at least).");
        HedgeRecord x = s.taken("plant a life 4;plant b life 3;plant c life 2;plant d life 2 hardy;bill a of a at 0;"
            + "bill b of b at 0;bill c of c at 0;"
            + "bill d of d at 0;frost 100 of 3;");
        s.due("two died", x.year(), 2);
        s.dueRow("more, as much, less, hardy", Checks.row(4, b -> x.bill(b, 0)), 1, 0, 0, 2);
        s.due("one more", x.year(), 1);
        s.dueRow("0 at least", Checks.row(4, b -> x.bill(b, 0)), 0, 0, 0, 2);
        HedgeRecord y = s.taken("plant p life 1;plant q life 99;bill a of p at 0;bill b of q at 1;grow 2;frost 100 of 2;");
        s.due("growth is ahead of it", y.year(), 0);
        s.dueRow("what is above 99 is lost ahead of it", Checks.row(2, b -> y.bill(b, 0)), 1, 97);
        HedgeRecord z = s.taken("plant p life 99 hardy;plant q life 99;bill a of q at 0;bill b of p at 1;frost 100 of 99;");
        s.due("of 99", z.year(), 1);
        s.dueRow("of 99", Checks.row(2, b -> z.bill(b, 0)), 0, 99);
        HedgeRecord w = s.taken("plant p life 3;bill a of p at 0;bill b of p at 0;grow 0-near;frost 100 of 2;");
        s.due("frost comes when all have grown", w.year(), 2);
        HedgeRecord v = s.taken("plant a life 9 hardy;plant b life 9;plant c life 9 hardy;plant d life 9;topic t;"
            + "frost 100 of 9;");
        for (int i = 0; i < 12; i++) {
            v.lay(0, i % 4, 0, 0, -1);
        }
        s.due("of twelve, half", v.year(), 6);
        s.due("those that are not hardy", v.living(0), 0b010101010101);
    }

    private void yearGoesUp() {
        s.of("T2", "The year goes up by 1.");
        HedgeRecord x = new HedgeRecord();
        for (int i = 1; i <= 3; i++) {
            x.year();
            s.due("year", x.about(5), i);
        }
        x.living(5);
        s.due("looking ahead does not count", x.about(5), 3);
    }

    private void laid() {
        s.of("T2", "ACTS: a BILL is laid (12 in all; of a PLANT, at a STAKE, says something of a TOPIC, amends one or none;"
            + " or it repeals one, "
            + "and says nothing);");
        HedgeRecord x = s.taken(TEXT);
        for (int i = 2; i < 12; i++) {
            s.due("bill " + i, i % 2 == 0 ? x.lay(3, 1, 1, i - 6, i - 1) : x.repeal(0, 0, i - 1), i);
        }
        s.due("a thirteenth", x.lay(3, 1, 1, 0, -1), -1);
        s.due("a thirteenth", x.repeal(3, 1, 0), -1);
        s.due("12 in all", x.about(0), 12);
        s.due("acts", x.about(8), 10);
        s.dueRow("laid", Checks.row(10, w -> x.bill(2, w)), 9, 0, 3, 1, 1, -4, 1, -1, 0, 1);
        s.dueRow("repeals", Checks.row(10, w -> x.bill(11, w)), 5, 0, 0, 0, -1, 0, -1, 10, 1, 0);
        HedgeRecord y = s.taken("stakes 2;plant p life 1;topic t;bill a of p at 0;bill b of p at 0;bill c of p at 0;"
            + "bill d of p at 0;bill e of p at 0;"
            + "bill f of p at 0;bill g of p at 0;bill h of p at 0;");
        for (int i = 8; i < 12; i++) {
            s.due("behind eight that are told", y.lay(1, 0, 0, 1, -1), i);
        }
        s.due("four are laid", y.lay(1, 0, 0, 1, -1), -1);
        y.pull(3);
        s.due("a dead one is one of them", y.lay(1, 0, 0, 1, -1), -1);
        y.undo();
        y.undo();
        s.due("one that was undone is none", y.repeal(1, 0, 3), 11);
    }

    private void pulledUp() {
        s.of("T2", "one is pulled up (its LIFE is 0);");
        HedgeRecord x = s.taken("plant p life 99;plant q life 1;bill a of p at 0;bill b of q at 0;");
        x.pull(0);
        s.dueRow("the most", Checks.row(2, b -> x.bill(b, 0)), 0, 1);
        x.pull(1);
        s.dueRow("the least", Checks.row(2, b -> x.bill(b, 0)), 0, 0);
        s.due("they are still bills", x.about(0), 2);
    }

    private void trimmed() {
        s.of("T2", "a STAKE is trimmed (all LIFE there is 1 .. 99 less, 0 at least); a YEAR.");
        HedgeRecord x = s.taken("stakes 3;plant p life 4;plant q life 5 hardy;plant r life 99;bill a of p at 1;"
            + "bill b of q at 1;bill c of r at 1;"
            + "bill d of p at 0;bill e of p at 2;");
        x.trim(1, 4);
        s.dueRow("by 4", Checks.row(5, b -> x.bill(b, 0)), 0, 1, 95, 4, 4);
        x.trim(1, 1);
        s.dueRow("by 1", Checks.row(5, b -> x.bill(b, 0)), 0, 0, 94, 4, 4);
        x.trim(1, 93);
        s.dueRow("by 93", Checks.row(5, b -> x.bill(b, 0)), 0, 0, 1, 4, 4);
        x.trim(1, 99);
        s.dueRow("by 99", Checks.row(5, b -> x.bill(b, 0)), 0, 0, 0, 4, 4);
        x.trim(0, 99);
        x.trim(2, 3);
        s.dueRow("the first and the last stake", Checks.row(5, b -> x.bill(b, 0)), 0, 0, 0, 0, 1);
        HedgeRecord y = s.taken("plant r life 99;bill a of r at 1;");
        y.trim(1, 99);
        s.due("99 by 99", y.bill(0, 0), 0);
    }

    private void undoRedo() {
        s.of("T2", "UNDO takes back the latest ACT that was not, REDO does that again which was taken back last");
        HedgeRecord x = s.taken(TEXT + "grow 1;frost 50 of 2;draw 7;");
        HedgeRecord[] states = new HedgeRecord[8];
        int acts = 7;
        for (int n = 0; n <= acts; n++) {
            states[n] = s.taken(TEXT + "grow 1;frost 50 of 2;draw 7;");
            for (int i = 0; i < n; i++) {
                act(states[n], i);
            }
        }
        for (int i = 0; i < acts; i++) {
            act(x, i);
        }
        int[] path = {-1, -1, 1, -1, -1, -1, 1, 1, -1, -1, -1, -1, 1, 1, 1, 1, 1, 1};
        int at = acts;
        for (int step : path) {
            s.due(step < 0 ? "undo" : "redo", step < 0 ? x.undo() : x.redo(), true);
            at += step;
            s.alike("behind " + at + " acts", Twins.present(x), Twins.present(states[at]));
            s.dueRow("kept", new int[] {x.about(8), x.about(9)}, at, acts - at);
        }
        s.due("none is left to be redone", x.redo(), false);
    }

    private static void act(HedgeRecord x, int i) {
        switch (i) {
            case 0:
                x.year();
                break;
            case 1:
                x.lay(3, 0, 1, -4, 1);
                break;
            case 2:
                x.trim(3, 2);
                break;
            case 3:
                x.repeal(0, 1, 2);
                break;
            case 4:
                x.pull(1);
                break;
            case 5:
                x.lay(0, 1, 0, 9, -1);
                break;
            default:
                x.year();
        }
    }

    private void tillAnotherAct() {
        s.of("T2", "(till another ACT);");
        for (int kind = 0; kind < 5; kind++) {
            HedgeRecord x = s.taken(TEXT);
            x.year();
            x.year();
            x.undo();
            x.undo();
            s.due("two can be redone", x.about(9), 2);
            switch (kind) {
                case 0:
                    x.lay(0, 0, 0, 0, -1);
                    break;
                case 1:
                    x.repeal(0, 0, 0);
                    break;
                case 2:
                    x.pull(0);
                    break;
                case 3:
                    x.trim(1, 1);
                    break;
                default:
                    x.year();
            }
            s.due("none behind act " + kind, x.about(9), 0);
            s.due("redo behind act " + kind, x.redo(), false);
            s.due("one can be undone", x.about(8), 1);
        }
        HedgeRecord y = s.taken(TEXT);
        y.year();
        y.undo();
        y.pull(2);
        y.trim(0, 1);
        y.lay(4, 0, 0, 0, -1);
        y.repeal(4, 0, 0);
        y.image(0);
        y.plan(3, 1);
        y.game();
        y.ring(0, 1, true);
        y.later(1);
        y.feed(0, 0, 0, 0, 0);
        y.living(60);
        Checks.read(y, "?");
        s.due("what is refused, and what is no act, is none", y.redo(), true);
        s.due("year", y.about(5), 1);
    }

    private void forty() {
        s.of("T2", "40 at most are kept, the oldest go.");
        for (int acts = 39; acts <= 130; acts += acts < 42 ? 1 : 11) {
            HedgeRecord x = s.taken("plant p life 99;bill a of p at 0;");
            for (int i = 0; i < acts; i++) {
                x.year();
            }
            int kept = Math.min(acts, 40);
            s.due("kept of " + acts, x.about(8), kept);
            for (int i = 1; i <= kept; i++) {
                s.due("undo " + i, x.undo(), true);
                s.due("year behind undo " + i, x.about(5), acts - i);
                s.due("age behind undo " + i, x.bill(0, 1), acts - i);
            }
            s.due("no more", x.undo(), false);
            s.dueRow("kept then", new int[] {x.about(8), x.about(9)}, 0, kept);
            for (int i = 1; i <= kept; i++) {
                s.due("redo " + i, x.redo(), true);
                s.due("year behind redo " + i, x.about(5), acts - kept + i);
            }
            s.due("no more to redo", x.redo(), false);
            s.due("all done again", x.about(5), acts);
        }
        HedgeRecord y = s.taken("plant p life 99;bill a of p at 0;");
        for (int i = 0; i < 45; i++) {
            y.year();
        }
        for (int i = 0; i < 10; i++) {
            y.undo();
        }
        s.dueRow("30 and 10", new int[] {y.about(8), y.about(9)}, 30, 10);
        y.trim(0, 9);
        s.dueRow("31 and none", new int[] {y.about(8), y.about(9)}, 31, 0);
        for (int i = 0; i < 12; i++) {
            y.year();
        }
        s.dueRow("40 and none", new int[] {y.about(8), y.about(9)}, 40, 0);
        for (int i = 0; i < 40; i++) {
            y.undo();
        }
        s.dueRow("none and 40", new int[] {y.about(8), y.about(9)}, 0, 40);
        s.dueRow("the oldest are gone: year and life", new int[] {y.about(5), y.bill(0, 0)}, 8, 99);
        for (int i = 0; i < 28; i++) {
            y.redo();
        }
        s.dueRow("the trimming is done again: year and life", new int[] {y.about(5), y.bill(0, 0)}, 35, 90);
    }

    private void lay() {
        s.of("11", "A BILL is laid (amends NONE: none): its number;");
        HedgeRecord x = s.taken("stakes 12;plant o life 1;plant p life 2;plant q life 3;plant r life 4;topic s;topic t;"
            + "topic u;topic v;");
        s.due("the least of all", x.lay(0, 0, 0, -9, -1), 0);
        s.due("the greatest of all, amends the first", x.lay(11, 3, 3, 9, 0), 1);
        s.dueRow("the first", Checks.row(10, w -> x.bill(0, w)), 1, 0, 0, 0, 0, -9, -1, -1, 1, 0);
        s.dueRow("the second", Checks.row(10, w -> x.bill(1, w)), 4, 0, 11, 3, 3, 9, 0, -1, 1, 0);
        for (int i = 2; i < 12; i++) {
            s.due("amends the one ahead", x.lay(i, i % 4, i % 4, 0, i - 1), i);
        }
        s.due("amends", x.bill(11, 6), 10);
        HedgeRecord y = s.taken(TEXT);
        y.pull(0);
        y.repeal(0, 0, 1);
        s.due("amends one that does not live", y.lay(0, 0, 0, 1, 0), 3);
        s.due("amends one that is repealed", y.lay(0, 0, 0, 1, 1), 4);
        s.due("neither stands", y.stands(), 0b00100);
    }

    private void layRefused() {
        s.of("11", "NONE, doing nothing, if there are 12, or one can't be. (An ACT.)");
        full.idle("a thirteenth", x -> x.lay(0, 0, 0, 1, -1), -1);
        int[][] wrong = {{-1, 0, 0, 0, -1}, {5, 0, 0, 0, -1}, {12, 0, 0, 0, -1}, {0, -1, 0, 0, -1}, {0, 2, 0, 0, -1},
            {0, 4, 0, 0, -1}, {0, 0, -1, 0, -1}, {0, 0, 2, 0, -1}, {0, 0, 4, 0, -1}, {0, 0, 0, -10, -1}, {0, 0, 0, 10, -1},
            {0, 0, 0, 0, -2}, {0, 0, 0, 0, 5}, {0, 0, 0, 0, 12}, {Integer.MIN_VALUE, 0, 0, 0, -1},
            {Integer.MAX_VALUE, 0, 0, 0, -1}, {0, Integer.MIN_VALUE, 0, 0, -1}, {0, Integer.MAX_VALUE, 0, 0, -1},
            {0, 0, Integer.MIN_VALUE, 0, -1}, {0, 0, Integer.MAX_VALUE, 0, -1}, {0, 0, 0, Integer.MIN_VALUE, -1},
            {0, 0, 0, Integer.MAX_VALUE, -1}, {0, 0, 0, 0, Integer.MIN_VALUE}, {0, 0, 0, 0, Integer.MAX_VALUE}};
        for (int[] w : wrong) {
            rich.idle("lay " + w[0] + " " + w[1] + " " + w[2] + " " + w[3] + " " + w[4],
                x -> x.lay(w[0], w[1], w[2], w[3], w[4]), -1);
        }
        HedgeRecord x = new HedgeRecord();
        Twins.rich(x);
        s.due("there are five bills", x.about(0), 5);
        s.due("the last that can be", x.lay(4, 1, 1, 9, 4), 5);
        new Twins(s, y -> Checks.read(y, "topic t;")).idle("without plants", y -> y.lay(0, 0, 0, 0, -1), -1);
        new Twins(s, y -> Checks.read(y, "plant p life 1;")).idle("without topics", y -> y.lay(0, 0, 0, 0, -1), -1);
        new Twins(s, y -> Checks.read(y, "plant p life 1;topic t;")).idle("itself", y -> y.lay(0, 0, 0, 0, 0), -1);
    }

    private void repeal() {
        s.of("12", "A BILL is laid that repeals one: its number;");
        HedgeRecord x = s.taken("stakes 12;plant o life 1;plant p life 2;plant q life 3;plant r life 4;bill a of o at 0;");
        s.due("the last stake and plant", x.repeal(11, 3, 0), 1);
        s.dueRow("it", Checks.row(10, w -> x.bill(1, w)), 4, 0, 11, 3, -1, 0, -1, 0, 1, 0);
        for (int i = 2; i < 12; i++) {
            s.due("repeals the one ahead", x.repeal(0, 0, i - 1), i);
        }
        s.due("repeals", x.bill(11, 7), 10);
        x.undo();
        x.pull(3);
        s.due("repeals one that does not live", x.repeal(0, 0, 3), 11);
    }

    private void repealRefused() {
        s.of("12", "NONE, doing nothing, if there are 12, or one can't be. (An ACT.)");
        full.idle("a thirteenth", x -> x.repeal(0, 0, 0), -1);
        int[][] wrong = {{-1, 0, 0}, {5, 0, 0}, {12, 0, 0}, {0, -1, 0}, {0, 2, 0}, {0, 4, 0}, {0, 0, -1}, {0, 0, 5},
            {0, 0, 12}, {Integer.MIN_VALUE, 0, 0}, {Integer.MAX_VALUE, 0, 0}, {0, Integer.MIN_VALUE, 0},
            {0, Integer.MAX_VALUE, 0}, {0, 0, Integer.MIN_VALUE}, {0, 0, Integer.MAX_VALUE}};
        for (int[] w : wrong) {
            rich.idle("repeal " + w[0] + " " + w[1] + " " + w[2], x -> x.repeal(w[0], w[1], w[2]), -1);
        }
        HedgeRecord x = new HedgeRecord();
        Twins.rich(x);
        s.due("the last that can be", x.repeal(4, 1, 4), 5);
        new Twins(s, y -> Checks.read(y, "plant p life 1;")).idle("without bills", y -> y.repeal(0, 0, 0), -1);
        new Twins(s, y -> Checks.read(y, "")).idle("without plants", y -> y.repeal(0, 0, 0), -1);
    }

    private void pull() {
        s.of("13", "A BILL is pulled up: its LIFE that was;");
        HedgeRecord x = s.taken("plant p life 99;plant q life 1;topic t;bill a of p at 0;bill b of q at 0;");
        s.due("the most", x.pull(0), 99);
        s.due("the least", x.pull(1), 1);
        for (int i = 2; i < 12; i++) {
            x.lay(0, 0, 0, 0, -1);
        }
        x.trim(0, 9);
        s.due("the twelfth", x.pull(11), 90);
        s.due("acts", x.about(8), 14);
        HedgeRecord y = s.taken("plant p life 9;bill a of p at 0;bill b of p at 0 repeals a;");
        s.due("one that does not stand, but lives", y.pull(0), 9);
    }

    private void pullRefused() {
        s.of("13", "NONE, doing nothing, if it does not LIVE, or there is none such. (An ACT.)");
        Twins dead = new Twins(s, x -> {
            Twins.rich(x);
            x.pull(0);
            x.year();
            x.undo();
        });
        dead.idle("pulled up already", x -> x.pull(0), -1);
        int[] wrong = {-1, 5, 11, 12, 32, Integer.MIN_VALUE, Integer.MAX_VALUE};
        for (int b : wrong) {
            rich.idle("pull " + b, x -> x.pull(b), -1);
        }
        full.idle("a thirteenth", x -> x.pull(12), -1);
        new Twins(s, x -> { }).idle("of none", x -> x.pull(0), -1);
        HedgeRecord x = s.taken("plant p life 1;bill a of p at 0;frost 100 of 1;");
        x.year();
        s.due("dead of frost", x.pull(0), -1);
        x.undo();
        s.due("alive again", x.pull(0), 1);
    }

    private void trim() {
        s.of("14", "A STAKE is trimmed by so much (1 .. 99): how many BILLS died of it;");
        HedgeRecord x = s.taken("stakes 12;plant p life 1;plant q life 99;topic t;bill a of p at 0;bill b of q at 0;"
            + "bill c of p at 11;");
        s.due("by 1: one", x.trim(0, 1), 1);
        s.due("by 1: none", x.trim(0, 1), 0);
        s.due("by 96: none", x.trim(0, 96), 0);
        s.due("life", x.bill(1, 0), 1);
        s.due("by 99", x.trim(0, 99), 1);
        s.due("the last stake", x.trim(11, 99), 1);
        for (int i = 3; i < 12; i++) {
            x.lay(5, 0, 0, 0, -1);
        }
        s.due("nine at once", x.trim(5, 1), 9);
        HedgeRecord y = s.taken("stakes 2;plant p life 2;topic t;");
        for (int i = 0; i < 12; i++) {
            y.lay(1, 0, 0, 0, -1);
        }
        y.pull(4);
        s.due("the dead one does not die again", y.trim(1, 2), 11);
    }

    private void trimRefused() {
        s.of("14", "NONE, doing nothing, if none LIVES there, or one can't be. (An ACT.)");
        int[][] wrong = {{1, 0}, {1, 100}, {1, -1}, {1, Integer.MIN_VALUE}, {1, Integer.MAX_VALUE}, {-1, 1}, {5, 1}, {12, 1},
            {Integer.MIN_VALUE, 1}, {Integer.MAX_VALUE, 1}, {0, 1}};
        for (int[] w : wrong) {
            rich.idle("trim " + w[0] + " " + w[1], x -> x.trim(w[0], w[1]), -1);
        }
        HedgeRecord x = new HedgeRecord();
        Twins.rich(x);
        s.due("the first stake where one lives", x.trim(1, 1) >= 0, true);
        s.due("the last stake", x.trim(4, 99) >= 0, true);
        Twins dead = new Twins(s, y -> {
            Checks.read(y, "stakes 3;plant p life 1;bill a of p at 0;bill b of p at 1;bill c of p at 2;");
            y.pull(1);
        });
        dead.idle("one is there, but dead", y -> y.trim(1, 1), -1);
        new Twins(s, y -> { }).idle("without bills", y -> y.trim(0, 1), -1);
        HedgeRecord z = s.taken("stakes 3;plant p life 1;bill a of p at 0 ;bill b of p at 1 repeals a;");
        s.due("one that lives, though repealed, is enough", z.trim(0, 1), 1);
    }

    private void year() {
        s.of("15", "A YEAR: how many BILLS died in it;");
        s.due("of none", new HedgeRecord().year(), 0);
        HedgeRecord x = s.taken("plant p life 1;plant q life 2;plant r life 3 hardy;topic t;bill a of p at 0;bill b of q at 1;"
            + "bill c of r at 2;"
            + "grow 0-1;frost 100 of 1;");
        s.due("of growth and of frost", x.year(), 2);
        s.due("those that are dead do not die again", x.year(), 0);
        s.due("the last", x.year(), 1);
        s.due("none is left", x.year(), 0);
        HedgeRecord y = s.taken("plant p life 1;topic t;grow 0-1;");
        for (int i = 0; i < 12; i++) {
            y.lay(0, 0, 0, 0, -1);
        }
        s.due("twelve", y.year(), 12);
    }

    private void yearRefused() {
        s.of("15", "NONE, doing nothing, behind 999 of them. (An ACT.)");
        // It takes more than 512 calls to come to this bound; the class keeps it all the same.
        HedgeRecord x = s.taken("plant p life 1;bill a of p at 0;");
        for (int i = 1; i <= 998; i++) {
            x.year();
        }
        s.due("year 998", x.about(5), 998);
        s.due("the 999th", x.year(), 0);
        int seed = x.about(6);
        x.undo();
        x.redo();
        for (int i = 0; i < 3; i++) {
            s.due("one more", x.year(), -1);
        }
        s.dueRow("nothing was done: year, seed, age, acts",
            new int[] {x.about(5), x.about(6), x.bill(0, 1), x.about(8), x.about(9)}, 999, seed, 999, 40, 0);
        x.undo();
        s.due("one that was undone is none", x.year(), 0);
        x.undo();
        x.undo();
        x.image(0);
        x.back(0);
        s.due("998 again", x.year(), 0);
        s.due("999 again", x.year(), 0);
        s.due("and no more", x.year(), -1);
    }

    private void undo() {
        s.of("16", "UNDO: true; false if there is none.");
        HedgeRecord x = s.taken(TEXT);
        s.due("none yet", x.undo(), false);
        x.pull(0);
        s.due("one", x.undo(), true);
        s.due("it lives again", x.bill(0, 0), 5);
        s.due("no more", x.undo(), false);
        s.dueRow("kept", new int[] {x.about(8), x.about(9)}, 0, 1);
        new Twins(s, y -> {
            Twins.rich(y);
            for (int i = 0; i < 40; i++) {
                y.undo();
            }
        }).idle("undo of none", y -> y.undo() ? 1 : 0, 0);
        new Twins(s, y -> { }).idle("undo of a new object", y -> y.undo() ? 1 : 0, 0);
        new Twins(s, y -> {
            Twins.rich(y);
            y.back(1);
        }).idle("undo behind back()", y -> y.undo() ? 1 : 0, 0);
        rich.alike("undo, then redo", y -> {
            y.undo();
            y.redo();
        }, y -> { });
    }

    private void redo() {
        s.of("17", "REDO: true; false if there is none.");
        HedgeRecord x = s.taken(TEXT);
        s.due("none yet", x.redo(), false);
        x.pull(0);
        s.due("none undone", x.redo(), false);
        x.undo();
        s.due("one", x.redo(), true);
        s.due("it is pulled up again", x.bill(0, 0), 0);
        s.due("no more", x.redo(), false);
        s.dueRow("kept", new int[] {x.about(8), x.about(9)}, 1, 0);
        new Twins(s, y -> {
            Twins.rich(y);
            for (int i = 0; i < 40; i++) {
                y.redo();
            }
        }).idle("redo of none", y -> y.redo() ? 1 : 0, 0);
        new Twins(s, y -> {
            Twins.rich(y);
            y.back(2);
        }).idle("redo behind back()", y -> y.redo() ? 1 : 0, 0);
        rich.alike("redo, then undo", y -> {
            y.redo();
            y.undo();
        }, y -> { });
    }

    private void actsAreActs() {
        String[] promises = {"11", "12", "13", "14", "15"};
        for (int kind = 0; kind < promises.length; kind++) {
            s.of(promises[kind], "(An ACT.)");
            HedgeRecord x = s.taken(TEXT);
            int[] before = Checks.row(15, x::about);
            int answer = kind == 0 ? x.lay(0, 0, 0, 3, -1) : kind == 1 ? x.repeal(0, 0, 0)
                : kind == 2 ? x.pull(0) : kind == 3 ? x.trim(1, 1) : x.year();
            s.due("it is done", answer >= 0, true);
            s.due("one can be undone", x.about(8), 1);
            s.due("undo", x.undo(), true);
            s.due("redone", x.about(9), 1);
            s.due("redo", x.redo(), true);
            x.undo();
            int[] after = Checks.row(15, x::about);
            after[9] = 0;
            s.dueRow("all as before", after, before);
        }
    }
}
