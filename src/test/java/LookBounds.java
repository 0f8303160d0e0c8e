/** The bounds of what is looked up and tried out (==== 3 of the terms) and of the promises 18 to 33. */
final class LookBounds {
    private static final int[] FAR = {Integer.MIN_VALUE, Integer.MAX_VALUE};

    private final Sentences s;
    private final Twins rich;

    LookBounds(Sentences s) {
        this.s = s;
        rich = new Twins(s, Twins::rich);
    }

    void all() {
        nothingIsDone();
        willTerm();
        lapseTerm();
        clashTerm();
        weedTerm();
        placesTerm();
        gapsTerm();
        widestTerm();
        closeTerm();
        walkTerm();
        trimTerm();
        trimLikeOnes();
        joyTerm();
        gameTerm();
        gameLikeOnes();
        will();
        lapse();
        dies();
        diesRefused();
        living();
        clashes();
        weed();
        places();
        gaps();
        widest();
        closes();
        walk();
        walkRefused();
        plan();
        planRefused();
        planLies();
        joy();
        saddest();
        game();
        lies();
    }

    private static int[] lying(HedgeRecord x) {
        return Checks.row(x.about(14), x::lies);
    }

    private void nothingIsDone() {
        s.of("T3", "(By what is now; nothing is done.)");
        rich.idle("will", x -> x.will(0, 60) & 0, 0);
        rich.idle("lapse", x -> x.lapse(0) & 0, 0);
        rich.idle("dies", x -> x.dies(0) & 0, 0);
        rich.idle("living", x -> x.living(60) & 0, 0);
        rich.idle("clashes", x -> x.clashes() & 0, 0);
        rich.idle("weed", x -> x.weed(1) & 0, 0);
        rich.idle("places", x -> x.places(1, 1, 9) & 0, 0);
        rich.idle("gaps", x -> x.gaps() & 0, 0);
        rich.idle("widest", x -> x.widest() & 0, 0);
        rich.idle("closes", x -> x.closes(1) & 0, 0);
        rich.idle("walk", x -> x.walk(0, 31) & 0, 0);
        rich.idle("joy", x -> x.joy(1) & 0, 0);
        rich.idle("saddest", x -> x.saddest() & 0, 0);
        rich.idle("the same plan again", x -> x.plan(2, 3) & 0, 0);
        rich.alike("a game, and then the plan that was", x -> {
            x.game();
            x.plan(2, 3);
        }, x -> { });
        HedgeRecord x = s.taken("plant p life 3;topic t;bill a of p at 0 says t 1;grow 0-1;");
        s.due("by what is now", x.dies(0), 3);
        x.year();
        s.due("by what is now", x.dies(0), 2);
        x.undo();
        s.due("by what is now", x.lapse(0), 3);
        x.trim(0, 2);
        s.due("by what is now", x.lapse(0), 1);
        HedgeRecord y = s.taken("plant p life 9;topic t;bill a of p at 0 says t 5;grow 0-(year=3)*9;");
        for (int year = 0; year <= 3; year++) {
            s.due("by the year that is now", y.dies(0), 4 - year);
            s.due("by the year that is now", y.lapse(0), 4 - year);
            s.dueRow("by the year that is now", new int[] {y.will(0, 3 - year), y.will(0, 4 - year)}, 5, 0);
            s.dueRow("by the year that is now", new int[] {y.living(3 - year), y.living(4 - year)}, 1, 0);
            s.due("by the year that is now", y.plan(1, 1), year == 3 ? 0 : 1);
            y.year();
        }
        HedgeRecord z = s.taken("plant p life 9;topic t;bill a of p at 0 says t 5;grow 0-(age=3)*9;");
        for (int year = 0; year <= 3; year++) {
            s.due("by the age that is now", z.dies(0), 4 - year);
            s.dueRow("by the age that is now", new int[] {z.living(3 - year), z.living(4 - year)}, 1, 0);
            s.due("by the age that is now", z.plan(1, 1), year == 3 ? 0 : 1);
            z.year();
        }
        HedgeRecord w = s.taken("plant p life 9;topic t;bill a of p at 0 says t 5;frost 72 of 9;draw 817;");
        s.due("by the seed that is now: 0, then 71", w.dies(0), 1);
        HedgeRecord v = s.taken("plant p life 9;topic t;bill a of p at 0 says t 5;frost 72 of 9;draw 44;");
        s.dueRow("by the seed that is now: 99, 634", new int[] {v.living(1), v.living(2)}, 1, 0);
        v.year();
        s.due("by the seed that is now: 634", v.living(1), 0);
    }

    private static final String FADING = "stakes 3;plant a life 1;plant b life 59;plant c life 60;plant d life 61;topic s;"
        + "topic t;topic u;topic v;"
        + "bill a of a at 0 says s 1;bill b of b at 1 says t 2;bill c of c at 1 says u 3;bill d of d at 2 says v 4;grow 0-1;";

    private void willTerm() {
        s.of("T3", "WILL: the LAW of a TOPIC behind n YEARS.");
        HedgeRecord x = s.taken(FADING);
        s.dueRow("behind 0", Checks.row(4, t -> x.will(t, 0)), 1, 2, 3, 4);
        s.dueRow("behind 1", Checks.row(4, t -> x.will(t, 1)), 0, 2, 3, 4);
        s.dueRow("behind 58", Checks.row(4, t -> x.will(t, 58)), 0, 2, 3, 4);
        s.dueRow("behind 59", Checks.row(4, t -> x.will(t, 59)), 0, 0, 3, 4);
        s.dueRow("behind 60", Checks.row(4, t -> x.will(t, 60)), 0, 0, 0, 4);
        x.year();
        s.dueRow("behind 60 from a year later", Checks.row(4, t -> x.will(t, 60)), 0, 0, 0, 0);
        HedgeRecord y = s.taken("plant p life 9;plant w life 1;topic t;bill a of p at 0 says t 5;bill b of w at 1 repeals a;"
            + "grow 0-(stake=1);");
        s.due("repealed now", y.will(0, 0), 0);
        s.due("not any more behind a year", y.will(0, 1), 5);
    }

    private void lapseTerm() {
        s.of("T3", "LAPSE: the fewest YEARS (60 at most) behind which it is not what it is now.");
        HedgeRecord x = s.taken(FADING);
        s.dueRow("in 1, 59, 60 years, and not in 60", Checks.row(4, x::lapse), 1, 59, 60, -1);
        x.year();
        s.dueRow("0 from now on, and a year less", Checks.row(4, x::lapse), -1, 58, 59, 60);
        HedgeRecord y = s.taken("plant p life 9;plant w life 1;topic t;bill a of p at 0 says t 5;bill b of w at 1 repeals a;"
            + "grow 0-(stake=1);");
        s.due("a law that comes", y.lapse(0), 1);
        HedgeRecord z = s.taken("stakes 3;plant p life 2;plant q life 4;topic t;bill a of q at 0 says t 1;"
            + "bill b of p at 1 says t 2;"
            + "bill c of p at 2 says t 1;grow 0-1-(stake=2);");
        s.due("the fewest, though it is as now again later", z.lapse(0), 1);
        s.due("as it is then", z.will(0, 1), 2);
        s.due("as now", z.will(0, 2), 1);
    }

    private void clashTerm() {
        s.of("T3", "CLASH: two BILLS that STAND, amend nothing, and say unlike things of one TOPIC.");
        HedgeRecord x = s.taken("plant p life 9;topic s;topic t;bill a of p at 0 says s 0;bill b of p at 7 says s 1;");
        s.due("0 and 1", x.clashes(), 1);
        x.lay(0, 0, 1, 1, -1);
        s.due("of another topic", x.clashes(), 1);
        x.lay(0, 0, 0, 1, -1);
        s.due("like one of them", x.clashes(), 2);
        x.lay(0, 0, 0, 7, 0);
        s.due("one that amends", x.clashes(), 2);
        x.repeal(0, 0, 2);
        s.due("one that says nothing", x.clashes(), 2);
        x.repeal(0, 0, 0);
        s.due("one is repealed", x.clashes(), 0);
        x.pull(6);
        s.due("it stands again", x.clashes(), 2);
        x.pull(1);
        s.due("one is dead", x.clashes(), 1);
        HedgeRecord w = s.taken("plant p life 9;topic s;topic t;bill a of p at 0 says s 1;bill b of p at 0 says t 1 amends a;"
            + "bill c of p at 0 says t 2;"
            + "bill d of p at 0 says t 3 amends c;");
        s.due("one that amends the first, and one that does not; and one behind it", w.clashes(), 0);
        HedgeRecord y = s.taken("plant p life 9;topic t;bill a of p at 0;bill b of p at 0;bill c of p at 0 says t 0;");
        s.due("those that say nothing do not clash with one another, nor with what says 0", y.clashes(), 0);
        HedgeRecord z = s.taken("plant p life 9;topic t;bill a of p at 0 says t 9;bill b of p at 0 says t -9;");
        s.due("9 and -9 are unlike", z.clashes(), 1);
    }

    private void weedTerm() {
        s.of("T3", "WEED: the fewest BILLS to pull up so that no two CLASH; of like ones the least set as bits.");
        HedgeRecord x = s.taken("plant p life 9;topic t;bill a of p at 0 says t 1;bill b of p at 0 says t 2;");
        s.dueRow("one of two, the first", Checks.row(2, x::weed), 1, 0b01);
        x.lay(0, 0, 0, 1, -1);
        s.dueRow("fewer, though a greater set", Checks.row(2, x::weed), 1, 0b10);
        x.lay(0, 0, 0, 2, -1);
        s.dueRow("two of four", Checks.row(2, x::weed), 2, 0b0101);
        x.pull(1);
        s.dueRow("by what lives", Checks.row(2, x::weed), 1, 0b1000);
        HedgeRecord y = s.taken("plant p life 9;topic t;bill a of p at 0 says t 1;bill b of p at 0 says t 2;"
            + "bill c of p at 0 repeals b;");
        s.dueRow("what is repealed clashes with none", Checks.row(2, y::weed), 0, 0);
        y.lay(0, 0, 0, 3, -1);
        s.dueRow("one is enough", Checks.row(2, y::weed), 1, 0b0001);
        HedgeRecord z = s.taken("plant p life 9;topic t;bill a of p at 0 says t 1;bill b of p at 0 says t 1;"
            + "bill c of p at 0 says t 2 repeals a;"
            + "bill d of p at 0 says t 1;");
        s.dueRow("the repealing one stays or goes, whichever is fewer", Checks.row(2, z::weed), 1, 0b0100);
        HedgeRecord w = s.taken("plant p life 9;topic s;topic t;");
        for (int i = 0; i < 12; i++) {
            w.lay(0, 0, i % 2, i - 5, -1);
        }
        s.dueRow("ten of twelve", Checks.row(2, w::weed), 10, 0b001111111111);
        HedgeRecord v = s.taken("plant p life 9;topic t;bill a of p at 0 says t 1;bill b of p at 0 says t 2 amends a;"
            + "bill c of p at 0 says t 3;");
        s.dueRow("what amends clashes with none", Checks.row(2, v::weed), 1, 0b001);
    }

    private void placesTerm() {
        s.of("T3", "PLACES: STAKES at which a BILL of a PLANT that says so much of a TOPIC, and amends nothing, could be laid so that the LAW of it "
            + "is that, all other LAWS as they are.");
        HedgeRecord x = s.taken("stakes 12;plant p life 1;topic s;topic t;bill a of p at 5 says s 3;"
            + "bill b of p at 8 says s 2 amends a;");
        s.due("behind all others", x.places(0, 0, 7), 0b111100000000);
        s.due("what is law already: ahead of them, or behind", x.places(0, 0, 5), 0b111100011111);
        s.due("what is law when more is added to it: between", x.places(0, 0, 3), 0b111100000000);
        s.due("of another topic: everywhere", x.places(0, 1, 0), 0b111111111111);
        x.lay(11, 0, 0, 1, 0);
        s.due("only at the last, behind what is there", x.places(0, 0, 9), 0b100000000000);
        s.due("at the first, too, if it is law", x.places(0, 0, 6), 0b100000011111);
        x.lay(11, 0, 0, -9, -1);
        s.due("what is said last is law: everywhere", x.places(0, 0, -9), 0b111111111111);
        HedgeRecord y = s.taken("stakes 2;plant p life 1;topic t;bill a of p at 1 says t 3;bill b of p at 1 says t 0 amends a;");
        s.due("0 more", y.places(0, 0, 4), 0b10);
        s.due("0 more, and 3", y.places(0, 0, 3), 0b11);
        y.repeal(0, 0, 0);
        s.due("what does not stand is in no way", y.places(0, 0, 4), 0b11);
        HedgeRecord z = s.taken("stakes 3;plant p life 1;topic s;topic t;bill a of p at 2 says s 3;"
            + "bill b of p at 1 says t 4 amends a;");
        s.due("ahead of what adds to it it is more", z.places(0, 1, 5), 0b110);
        s.due("0 more than what is added, ahead of it", z.places(0, 1, 0), 0b110);
        for (int stake = 0; stake < 3; stake++) {
            z.lay(stake, 0, 1, 5, -1);
            s.due("laid there, it is so", z.law(1) == 5, (0b110 >> stake & 1) != 0);
            s.due("and the other as it was", z.law(0), 3);
            z.undo();
        }
    }

    private void gapsTerm() {
        s.of("T3", "GAPS: STAKES at which no BILL LIVES.");
        HedgeRecord x = s.taken("stakes 12;plant p life 1;bill a of p at 0;bill b of p at 11;bill c of p at 5;"
            + "bill d of p at 5 repeals a;");
        s.due("all but three", x.gaps(), 0b011111011110);
        x.pull(3);
        s.due("one of two is dead", x.gaps(), 0b011111011110);
        x.pull(2);
        s.due("both", x.gaps(), 0b011111111110);
        x.repeal(1, 0, 1);
        s.due("what is repealed lives", x.gaps(), 0b011111111100);
    }

    private void widestTerm() {
        s.of("T3", "WIDEST: how many of these are beside one another at the most.");
        HedgeRecord x = s.taken("stakes 12;plant p life 1;bill a of p at 5;");
        s.due("five and six: the ends are not beside one another", x.widest(), 6);
        HedgeRecord y = s.taken("stakes 12;plant p life 1;bill a of p at 11;bill b of p at 3;");
        s.due("in the middle", y.widest(), 7);
        HedgeRecord z = s.taken("stakes 12;plant p life 1;bill a of p at 10;");
        s.due("at the first", z.widest(), 10);
        HedgeRecord w = s.taken("stakes 12;plant p life 1;bill a of p at 1;");
        s.due("up to the last", w.widest(), 10);
        HedgeRecord v = s.taken("stakes 4;plant p life 1;bill a of p at 1;bill b of p at 3;");
        s.due("none beside another", v.widest(), 1);
    }

    private void closeTerm() {
        s.of("T3", "CLOSE for a width (1 .. 12): how few STAKES to fill so that none that wide is left.");
        HedgeRecord x = s.taken("stakes 12;");
        s.dueRow("of twelve", Checks.row(12, w -> x.closes(w + 1)), 12, 6, 4, 3, 2, 2, 1, 1, 1, 1, 1, 1);
        HedgeRecord y = s.taken("stakes 12;plant p life 1;bill a of p at 5;");
        s.dueRow("of five and six", Checks.row(12, w -> y.closes(w + 1)), 11, 5, 3, 2, 2, 1, 0, 0, 0, 0, 0, 0);
        HedgeRecord z = s.taken("stakes 2;plant p life 1;bill a of p at 0;bill b of p at 1;");
        s.dueRow("of none", Checks.row(12, w -> z.closes(w + 1)), 0, 0, 0, 0, 0, 0, 0, 0, 0, 0, 0, 0);
        HedgeRecord w = new HedgeRecord();
        s.dueRow("of eight", Checks.row(12, i -> w.closes(i + 1)), 8, 4, 2, 2, 1, 1, 1, 1, 0, 0, 0, 0);
    }

    private void walkTerm() {
        s.of("T3", "WALK from a STAKE: the fewest steps, from STAKE to STAKE, by which all of a set are come to.");
        HedgeRecord x = s.taken("stakes 12;");
        s.due("from one end to the other", x.walk(0, 1 << 11), 11);
        s.due("and back", x.walk(11, 1), 11);
        s.due("both ends from the middle", x.walk(5, 1 << 11 | 1), 16);
        s.due("both ends from the other middle", x.walk(6, 1 << 11 | 1), 16);
        s.due("both ends from beside the first", x.walk(1, 1 << 11 | 1), 12);
        s.due("both ends from beside the last", x.walk(10, 1 << 11 | 1), 12);
        s.due("both ends from the first: no way around", x.walk(0, 1 << 11 | 1), 11);
        s.due("all", x.walk(0, 4095), 11);
        s.due("all from the third", x.walk(2, 4095), 13);
        s.due("where it is", x.walk(7, 1 << 7), 0);
        s.due("beside it", x.walk(7, 1 << 8), 1);
        s.due("on both sides of it", x.walk(7, 1 << 8 | 1 << 6), 3);
        s.due("on one side alone", x.walk(7, 1 << 8 | 1 << 9), 2);
    }

    /** Two that repeal, at stakes 1 and 2, each with two bills that would stand without it. */
    private static final String REPEALS = "stakes 4;plant p life 9;plant w life 3;bill a of p at 0;bill b of p at 0 amends a;"
        + "bill c of p at 3;"
        + "bill d of p at 3 amends c;bill e of w at 1 repeals a;bill f of w at 2 repeals c;";

    private void trimTerm() {
        s.of("T3", "TRIM for n YEARS (1 .. 3) by so much: ahead of each YEAR one STAKE is trimmed, or none: so that most BILLS STAND at last;");
        HedgeRecord x = s.taken(REPEALS);
        s.due("1 year", x.plan(1, 3), 3);
        s.dueRow("1 year", lying(x), 1);
        s.due("2 years", x.plan(2, 3), 4);
        s.dueRow("2 years", lying(x), 1, 2);
        s.due("3 years", x.plan(3, 3), 4);
        s.dueRow("3 years", lying(x), -1, 1, 2);
        s.due("by less, 1 year", x.plan(1, 2), 2);
        s.dueRow("by less, 1 year", lying(x), -1);
        s.due("by less, 2 years", x.plan(2, 2), 3);
        s.dueRow("by less, 2 years", lying(x), 1, 1);
        s.due("by 1, 3 years", x.plan(3, 1), 3);
        s.dueRow("by 1, 3 years", lying(x), 1, 1, 1);
        HedgeRecord y = s.taken("stakes 3;plant p life 5;plant w life 20;bill a of w at 1;bill b of p at 0;bill c of p at 2;"
            + "grow 0-(near>0)*9;");
        s.due("the trimming is ahead of the year", y.plan(1, 20), 2);
        s.dueRow("the trimming is ahead of the year", lying(y), 1);
        s.due("by less it dies first in the year", y.plan(1, 12), 2);
        s.dueRow("by less it dies first in the year", lying(y), 1);
        s.due("by too little", y.plan(1, 10), 1);
        s.dueRow("by too little", lying(y), -1);
        HedgeRecord z = s.taken("stakes 12;plant p life 9;plant w life 1;bill a of p at 0;bill b of p at 0 amends a;"
            + "bill c of w at 11 repeals a;");
        s.due("the last stake", z.plan(1, 99), 2);
        s.dueRow("the last stake", lying(z), 11);
        HedgeRecord w = s.taken("stakes 12;plant p life 9;plant w life 1;bill a of p at 11;bill b of p at 11 amends a;"
            + "bill c of w at 0 repeals a;");
        s.due("the first stake", w.plan(1, 1), 2);
        s.dueRow("the first stake", lying(w), 0);
    }

    private void trimLikeOnes() {
        s.of("T3", "of like ones those that trim least often; of like ones the first (YEAR by YEAR; none ahead of all).");
        HedgeRecord x = s.taken("stakes 3;plant p life 9;bill a of p at 1;");
        for (int years = 1; years <= 3; years++) {
            s.due("nothing is gained", x.plan(years, 1), 1);
            s.dueRow("nothing is gained", lying(x), Checks.row(years, i -> -1));
        }
        HedgeRecord y = s.taken("stakes 3;plant p life 9;plant w life 1;bill a of p at 2;bill b of p at 2 amends a;"
            + "bill c of w at 0 repeals a;");
        s.due("once is enough, late", y.plan(3, 1), 2);
        s.dueRow("none ahead of stake 0", lying(y), -1, -1, 0);
        HedgeRecord z = s.taken("stakes 3;plant p life 9;plant w life 2;bill a of p at 0;bill b of p at 0 amends a;"
            + "bill c of p at 0 amends a;"
            + "bill d of w at 2 repeals a;grow (stake=2)*2;");
        s.due("once, early, is less than twice, late", z.plan(3, 3), 3);
        s.dueRow("once, early, is less than twice, late", lying(z), 2, -1, -1);
        HedgeRecord w = s.taken(REPEALS);
        w.plan(1, 3);
        s.dueRow("of two stakes the first", lying(w), 1);
        w.pull(4);
        w.plan(1, 3);
        s.dueRow("the other alone", lying(w), 2);
        HedgeRecord v = new HedgeRecord();
        s.due("without bills", v.plan(3, 99), 0);
        s.dueRow("without bills", lying(v), -1, -1, -1);
        HedgeRecord u = s.taken("stakes 2;plant p life 9;bill a of p at 0;");
        u.pull(0);
        s.due("without living bills", u.plan(2, 9), 0);
        s.dueRow("without living bills", lying(u), -1, -1);
    }

    private void joyTerm() {
        s.of("T3", "JOY of a PARTY: over what it wants, each weight times how far the LAW is from what is wanted, together, taken from 0.");
        HedgeRecord x = s.taken("plant p life 9;topic s;topic t;topic u;topic v;party a;party b;party c;wants a s 9 by 9;"
            + "wants a t -9 by 9;"
            + "wants b s 1 by 1;wants b v 0 by 9;");
        s.dueRow("far above, far below, nothing wanted", Checks.row(3, x::joy), -162, -1, 0);
        x.lay(0, 0, 0, -9, -1);
        x.lay(0, 0, 1, 9, -1);
        s.dueRow("on the other side of 0", Checks.row(3, x::joy), -324, -10, 0);
        x.lay(0, 0, 0, 1, -1);
        s.dueRow("just so", Checks.row(3, x::joy), -234, 0, 0);
        for (int i = 3; i < 12; i++) {
            x.lay(7, 0, 3, 9, 0);
        }
        s.due("beyond what can be wanted", x.joy(1), -9 * 81);
        HedgeRecord z = s.taken("stakes 2;plant p life 9;topic t;bill a of p at 0 says t 2;bill b of p at 1 says t 3 amends a;"
            + "party a;wants a t 4 by 2;");
        s.due("with what amends it", z.joy(0), -2);
        z.lay(1, 0, 0, -9, 0);
        s.due("with what amends it by less than 0", z.joy(0), -16);
        HedgeRecord y = s.taken("party a;");
        s.due("without topics", y.joy(0), 0);
    }

    private static final String PARTIES = "stakes 3;plant p life 5;topic s;topic t;bill a of p at 0 says s 3;"
        + "bill b of p at 1 says s 5;"
        + "bill c of p at 2 says t 4;party r;party g;party h;wants r s 3 by 1;wants g s 5 by 2;wants g t 0 by 1;"
        + "wants h t 4 by 9;";

    private void gameTerm() {
        s.of("T3", "GAME: PARTIES, one by one in order, each pull up one BILL that LIVES, or none, each so that its own JOY at last is most, all knowing that;");
        HedgeRecord x = s.taken(PARTIES);
        s.due("two are pulled up", x.game(), 2);
        s.dueRow("by the first two", lying(x), 1, 2, -1);
        x.pull(1);
        x.pull(2);
        s.due("each as it likes: none", x.game(), 0);
        s.dueRow("none", lying(x), -1, -1, -1);
        // The first would like 1; but the second takes away what is then left, so the first takes away nothing.
        HedgeRecord y = s.taken("stakes 3;plant p life 5;topic t;bill a of p at 0 says t 1;bill b of p at 1 says t 6;"
            + "bill c of p at 2 says t 3;"
            + "party r;party g;wants r t 6 by 1;wants g t 3 by 1;");
        s.due("the first knows what the second does", y.game(), 0);
        HedgeRecord z = s.taken("stakes 2;plant p life 5;topic t;bill a of p at 0 says t 5;bill b of p at 1 says t 9;party r;"
            + "party g;"
            + "wants r t 0 by 1;wants g t 5 by 1;");
        s.due("what the first pulls up lives no more for the second", z.game(), 1);
        s.dueRow("the second does it by itself", lying(z), -1, 1);
        HedgeRecord w = s.taken("stakes 2;plant p life 5;topic t;bill a of p at 0 says t 5;bill b of p at 1 says t 9;party r;"
            + "party g;"
            + "wants r t 0 by 1;wants g t 0 by 1;");
        s.due("both are needed", w.game(), 2);
        s.dueRow("the first one pulls up the first bill", lying(w), 0, 1);
        HedgeRecord v = s.taken("plant p life 5;topic t;party r;wants r t 9 by 1;");
        s.due("without bills", v.game(), 0);
        s.dueRow("without bills", lying(v), -1);
    }

    private void gameLikeOnes() {
        s.of("T3", "of like ones none, then the first BILL.");
        HedgeRecord x = s.taken("stakes 2;plant p life 5;topic t;bill a of p at 0 says t 1;bill b of p at 1 says t 2;party r;"
            + "wants r t 2 by 1;");
        s.due("none is as good as the first bill", x.game(), 0);
        s.dueRow("none", lying(x), -1);
        HedgeRecord y = s.taken("stakes 3;plant p life 5;topic t;bill a of p at 0 says t 5;bill b of p at 1 says t 1 amends a;"
            + "bill c of p at 2 says t 1 amends a;party r;wants r t 6 by 1;");
        s.due("one of two", y.game(), 1);
        s.dueRow("the first of them", lying(y), 1);
        HedgeRecord z = s.taken("stakes 3;plant p life 5;topic t;bill a of p at 0 says t 5;party r;party g;party h;"
            + "wants r t 0 by 1;wants g t 0 by 1;"
            + "wants h t 0 by 1;");
        s.due("each leaves it to the next", z.game(), 1);
        s.dueRow("so the last one does it", lying(z), -1, -1, 0);
        HedgeRecord w = s.taken("plant p life 5;topic t;party r;");
        for (int i = 0; i < 12; i++) {
            w.lay(0, 0, 0, 1, -1);
        }
        s.due("who wants nothing", w.game(), 0);
        HedgeRecord v = s.taken("plant p life 5;topic t;party r;wants r t 1 by 1;");
        for (int i = 0; i < 12; i++) {
            v.lay(i % 8, 0, 0, i == 7 ? 2 : 1, -1);
        }
        s.due("of twelve the eighth", v.game(), 1);
        s.dueRow("of twelve the eighth", lying(v), 7);
        HedgeRecord u = s.taken("plant p life 5;topic t;party r;wants r t 1 by 1;");
        for (int i = 0; i < 12; i++) {
            u.lay(i < 11 ? 0 : 7, 0, 0, i < 11 ? 1 : 2, -1);
        }
        s.due("of twelve the last", u.game(), 1);
        s.dueRow("of twelve the last", lying(u), 11);
    }

    private void will() {
        s.of("18", "WILL (n 0 .. 60); -1000 if one can't be.");
        HedgeRecord x = s.taken(FADING);
        s.dueRow("the first topic in no year, the last in 60", new int[] {x.will(0, 0), x.will(3, 60)}, 1, 4);
        int[][] wrong = {{0, -1}, {0, 61}, {3, 61}, {-1, 0}, {4, 0}, {4, 60}, {-1, -1}, {0, FAR[0]}, {0, FAR[1]},
            {FAR[0], 0}, {FAR[1], 0}};
        for (int[] w : wrong) {
            s.due("will " + w[0] + " " + w[1], x.will(w[0], w[1]), -1000);
        }
        s.due("without topics", new HedgeRecord().will(0, 0), -1000);
        rich.idle("will of none", y -> y.will(2, 5), -1000);
        rich.idle("will too far", y -> y.will(0, 61), -1000);
    }

    private void lapse() {
        s.of("19", "LAPSE; NONE if 60 are not enough, or there is no such TOPIC.");
        HedgeRecord x = s.taken(FADING);
        s.dueRow("60 are enough, and are not", new int[] {x.lapse(2), x.lapse(3)}, 60, -1);
        int[] wrong = {-1, 4, FAR[0], FAR[1]};
        for (int topic : wrong) {
            s.due("lapse " + topic, x.lapse(topic), -1);
        }
        s.due("without topics", new HedgeRecord().lapse(0), -1);
        s.due("of which nothing is said", s.taken("topic t;").lapse(0), -1);
        rich.idle("lapse of none", y -> y.lapse(2), -1);
    }

    private void dies() {
        s.of("20", "Behind how many YEARS (60 at most) a BILL does not LIVE any more (0: it does not now);");
        HedgeRecord x = s.taken(FADING);
        s.dueRow("in 1, 59, 60", Checks.row(3, x::dies), 1, 59, 60);
        x.pull(3);
        s.due("now", x.dies(3), 0);
        x.year();
        s.dueRow("a year less", Checks.row(4, x::dies), 0, 58, 59, 0);
        HedgeRecord y = s.taken("plant p life 1;topic t;");
        for (int i = 0; i < 12; i++) {
            y.lay(0, 0, 0, 0, -1);
        }
        y.pull(11);
        s.due("the twelfth", y.dies(11), 0);
    }

    private void diesRefused() {
        s.of("20", "NONE if it still does, or there is none such.");
        HedgeRecord x = s.taken(FADING);
        s.due("in 61", x.dies(3), -1);
        x.year();
        s.due("in 60", x.dies(3), 60);
        int[] wrong = {-1, 4, 11, 12, FAR[0], FAR[1]};
        for (int b : wrong) {
            s.due("dies " + b, x.dies(b), -1);
        }
        s.due("without bills", new HedgeRecord().dies(0), -1);
        rich.idle("dies of none", y -> y.dies(5), -1);
    }

    private void living() {
        s.of("21", "BILLS that LIVE behind n YEARS (0 .. 60), as bits; NONE for another number.");
        HedgeRecord x = s.taken(FADING);
        s.dueRow("behind 0, 1, 58, 59, 60", new int[] {x.living(0), x.living(1), x.living(58), x.living(59), x.living(60)},
            0b1111, 0b1110, 0b1110, 0b1100, 0b1000);
        int[] wrong = {-1, 61, 62, FAR[0], FAR[1]};
        for (int n : wrong) {
            s.due("living " + n, x.living(n), -1);
        }
        HedgeRecord y = s.taken("plant p life 1;topic t;");
        for (int i = 0; i < 12; i++) {
            y.lay(0, 0, 0, 0, -1);
        }
        s.dueRow("all twelve", new int[] {y.living(0), y.living(60)}, 4095, 4095);
        s.dueRow("none", new int[] {new HedgeRecord().living(0), new HedgeRecord().living(60)}, 0, 0);
        rich.idle("living too far", z -> z.living(61), -1);
    }

    private void clashes() {
        s.of("22", "CLASH: how many twos.");
        s.due("without bills", new HedgeRecord().clashes(), 0);
        HedgeRecord x = s.taken("plant p life 1;topic t;");
        for (int i = 0; i < 12; i++) {
            x.lay(0, 0, 0, i - 3, -1);
            s.due("of " + (i + 1), x.clashes(), i * (i + 1) / 2);
        }
        HedgeRecord y = s.taken("plant p life 1;topic s;topic t;topic u;topic v;");
        for (int i = 0; i < 12; i++) {
            y.lay(0, 0, i % 4, i / 4, -1);
        }
        s.due("three of each topic", y.clashes(), 12);
    }

    private void weed() {
        s.of("23", "WEED what 0: how many, 1: which, as bits; NONE for another what.");
        HedgeRecord x = s.taken("plant p life 1;topic t;");
        s.dueRow("without bills", new int[] {x.weed(-1), x.weed(0), x.weed(1), x.weed(2)}, -1, 0, 0, -1);
        for (int i = 0; i < 12; i++) {
            x.lay(0, 0, 0, i - 3, -1);
            s.dueRow("of " + (i + 1), Checks.row(2, x::weed), i, (1 << i) - 1);
        }
        int[] wrong = {-1, 2, FAR[0], FAR[1]};
        for (int what : wrong) {
            s.due("weed " + what, x.weed(what), -1);
        }
        HedgeRecord y = s.taken("plant p life 1;topic t;");
        for (int i = 0; i < 12; i++) {
            y.lay(0, 0, 0, i < 6 ? 1 : 2, -1);
        }
        s.dueRow("half", Checks.row(2, y::weed), 6, 0b000000111111);
        y.pull(0);
        s.dueRow("less than half", Checks.row(2, y::weed), 5, 0b000000111110);
        y.undo();
        y.pull(11);
        s.dueRow("the other half", Checks.row(2, y::weed), 5, 0b011111000000);
        rich.idle("weed of another what", z -> z.weed(2), -1);
    }

    private void places() {
        s.of("24", "PLACES (says -9 .. 9), as bits; NONE if there are 12 BILLS, or one can't be.");
        HedgeRecord x = s.taken("stakes 12;plant o life 1;plant p life 1;plant q life 1;plant r life 1;topic s;topic t;"
            + "topic u;topic v;");
        s.dueRow("the ends of all", new int[] {x.places(0, 0, -9), x.places(3, 3, 9)}, 4095, 4095);
        int[][] wrong = {{-1, 0, 0}, {4, 0, 0}, {0, -1, 0}, {0, 4, 0}, {0, 0, -10}, {0, 0, 10}, {FAR[0], 0, 0},
            {FAR[1], 0, 0}, {0, FAR[0], 0}, {0, FAR[1], 0}, {0, 0, FAR[0]}, {0, 0, FAR[1]}};
        for (int[] w : wrong) {
            s.due("places " + w[0] + " " + w[1] + " " + w[2], x.places(w[0], w[1], w[2]), -1);
        }
        for (int i = 0; i < 11; i++) {
            x.lay(0, 0, 0, 1, -1);
        }
        s.due("11 bills", x.places(0, 0, 2), 4095);
        x.lay(0, 0, 0, 1, -1);
        s.due("12 bills", x.places(0, 0, 2), -1);
        x.pull(3);
        s.due("12 bills, one of them dead", x.places(0, 0, 2), -1);
        x.undo();
        x.undo();
        s.due("11 again", x.places(0, 0, 2), 4095);
        s.due("two stakes", s.taken("stakes 2;plant p life 1;topic t;").places(0, 0, 0), 3);
        s.due("without plants", s.taken("topic t;").places(0, 0, 0), -1);
        s.due("without topics", s.taken("plant p life 1;").places(0, 0, 0), -1);
        rich.idle("places of none", y -> y.places(2, 0, 0), -1);
        new Twins(s, Twins::full).idle("places with 12", y -> y.places(0, 0, 0), -1);
    }

    private void gaps() {
        s.of("25", "GAPS, as bits.");
        s.dueRow("all of 2, 8, 12", new int[] {s.taken("stakes 2;").gaps(), new HedgeRecord().gaps(),
            s.taken("stakes 12;").gaps()}, 3, 255, 4095);
        HedgeRecord x = s.taken("stakes 12;plant p life 1;topic t;");
        for (int i = 0; i < 12; i++) {
            x.lay(i, 0, 0, 0, -1);
            s.due("up to " + i, x.gaps(), 4095 & ~((2 << i) - 1));
        }
    }

    private void widest() {
        s.of("26", "WIDEST.");
        s.dueRow("all of 2, 8, 12", new int[] {s.taken("stakes 2;").widest(), new HedgeRecord().widest(),
            s.taken("stakes 12;").widest()}, 2, 8, 12);
        HedgeRecord x = s.taken("stakes 12;plant p life 1;topic t;");
        int[] wanted = {11, 10, 9, 8, 7, 6, 5, 4, 3, 2, 1, 0};
        for (int i = 0; i < 12; i++) {
            x.lay(i, 0, 0, 0, -1);
            s.due("up to " + i, x.widest(), wanted[i]);
        }
    }

    private void closes() {
        s.of("27", "CLOSE; NONE for another width.");
        int[] wrong = {0, 13, -1, FAR[0], FAR[1]};
        HedgeRecord x = s.taken("stakes 12;");
        for (int width : wrong) {
            s.due("closes " + width, x.closes(width), -1);
        }
        s.dueRow("1 and 12", new int[] {x.closes(1), x.closes(12)}, 12, 1);
        HedgeRecord y = s.taken("stakes 2;");
        s.dueRow("of two stakes", Checks.row(14, y::closes), -1, 2, 1, 0, 0, 0, 0, 0, 0, 0, 0, 0, 0, -1);
        rich.idle("closes 13", z -> z.closes(13), -1);
    }

    private void walk() {
        s.of("28", "WALK (a set, as bits; 0 of none);");
        HedgeRecord x = s.taken("stakes 12;");
        for (int stake = 0; stake < 12; stake++) {
            s.due("none from " + stake, x.walk(stake, 0), 0);
            s.due("all from " + stake, x.walk(stake, 4095), 11 + Math.min(stake, 11 - stake));
        }
    }

    private void walkRefused() {
        s.of("28", "NONE if one can't be.");
        int[] counts = {2, 8, 12};
        for (int n : counts) {
            HedgeRecord x = s.taken("stakes " + n + ";");
            s.due("the last stake, all", x.walk(n - 1, (1 << n) - 1), n - 1);
            int[] noStake = {-1, n, FAR[0], FAR[1]};
            for (int stake : noStake) {
                s.due("from " + stake + " of " + n, x.walk(stake, 1), -1);
                s.due("from " + stake + " of " + n + " to none", x.walk(stake, 0), -1);
            }
            int[] noSet = {1 << n, 1 << n | 1, -1, 1 << 31, FAR[1], (2 << n) - 1};
            for (int set : noSet) {
                s.due("to " + set + " of " + n, x.walk(0, set), -1);
            }
        }
        rich.idle("walk to none such", x -> x.walk(0, 32), -1);
    }

    private void plan() {
        s.of("29", "TRIM (by 1 .. 99): how many STAND at last;");
        HedgeRecord x = s.taken("stakes 3;plant p life 99;plant w life 1;bill a of p at 0;bill b of p at 0 amends a;"
            + "bill c of w at 2 repeals a;");
        s.dueRow("by 1 and 99, of 1 and 3 years", new int[] {x.plan(1, 1), x.plan(3, 1), x.plan(1, 99), x.plan(3, 99)},
            2, 2, 2, 2);
        HedgeRecord y = s.taken("stakes 3;plant p life 99;bill a of p at 0;bill b of p at 0 amends a;"
            + "bill c of p at 2 repeals a;grow 0-(stake=0)*49;");
        s.dueRow("by 98 and by 99", new int[] {y.plan(1, 98), y.plan(1, 99)}, 1, 2);
        s.due("in three years the others die", y.plan(3, 99), 1);
        HedgeRecord z = s.taken("plant p life 1;topic t;");
        for (int i = 0; i < 12; i++) {
            z.lay(i % 8, 0, 0, 0, -1);
        }
        s.due("all twelve", z.plan(3, 1), 12);
    }

    private void planRefused() {
        s.of("29", "NONE if one can't be.");
        int[][] wrong = {{0, 1}, {4, 1}, {-1, 1}, {FAR[0], 1}, {FAR[1], 1}, {1, 0}, {1, 100}, {1, -1}, {1, FAR[0]},
            {1, FAR[1]}, {0, 0}, {4, 100}};
        for (int[] w : wrong) {
            HedgeRecord x = new HedgeRecord();
            HedgeRecord y = new HedgeRecord();
            Twins.rich(x);
            s.due("plan " + w[0] + " " + w[1], x.plan(w[0], w[1]), -1);
            s.dueRow("nothing lies there", lying(x));
            s.due("nothing lies there", x.lies(0), -2);
            Twins.rich(y);
            x.plan(1, 1);
            y.plan(1, 1);
            s.alike("all else as it was", Twins.everything(x), Twins.everything(y));
        }
    }

    private void planLies() {
        s.of("29", "The STAKES (NONE: none) lie there then, YEAR by YEAR (behind NONE: nothing).");
        HedgeRecord x = s.taken(REPEALS);
        int[][] wanted = {{1}, {1, 2}, {-1, 1, 2}};
        for (int years = 1; years <= 3; years++) {
            x.plan(years, 3);
            s.dueRow("of " + years, lying(x), wanted[years - 1]);
            s.due("no more", x.lies(years), -2);
        }
        x.plan(1, 3);
        s.due("those of the earlier plan are gone", x.lies(1), -2);
        x.plan(4, 3);
        s.dueRow("behind NONE", lying(x));
        s.due("behind NONE", x.lies(0), -2);
    }

    private void joy() {
        s.of("30", "JOY now; 1 if there is no such PARTY.");
        HedgeRecord x = s.taken("topic t;party a;party b;party c;wants c t 1 by 1;");
        s.dueRow("of three", new int[] {x.joy(-1), x.joy(0), x.joy(1), x.joy(2), x.joy(3)}, 1, 0, 0, -1, 1);
        s.dueRow("of none", new int[] {new HedgeRecord().joy(0), new HedgeRecord().joy(-1)}, 1, 1);
        HedgeRecord y = s.taken("party a;");
        s.dueRow("of one", new int[] {y.joy(0), y.joy(1), y.joy(2), y.joy(FAR[0]), y.joy(FAR[1])}, 0, 1, 1, 1, 1);
        rich.idle("joy of none", z -> z.joy(2), 1);
    }

    private void saddest() {
        s.of("31", "The PARTY of the least JOY now; of like ones the first; NONE without PARTIES.");
        s.due("without parties", s.taken("topic t;").saddest(), -1);
        String three = "topic t;party a;party b;party c;";
        s.due("all alike", s.taken(three).saddest(), 0);
        s.due("the first", s.taken(three + "wants a t 1 by 1;").saddest(), 0);
        s.due("the second", s.taken(three + "wants b t 1 by 1;").saddest(), 1);
        s.due("the last", s.taken(three + "wants c t 1 by 1;").saddest(), 2);
        s.due("of two like ones the first", s.taken(three + "wants c t 1 by 2;wants b t -2 by 1;").saddest(), 1);
        s.due("of three like ones the first", s.taken(three + "wants c t 1 by 2;wants b t -2 by 1;"
            + "wants a t 2 by 1;").saddest(), 0);
        s.due("the least, not the first below 0", s.taken(three + "wants a t 1 by 1;wants b t 1 by 2;"
            + "wants c t 1 by 3;").saddest(), 2);
        s.due("one alone", s.taken("party a;").saddest(), 0);
    }

    private void game() {
        s.of("32", "GAME: the BILLS that are pulled up lie there then, PARTY by PARTY (NONE: none): how many are.");
        HedgeRecord x = s.taken(PARTIES);
        x.plan(1, 1);
        s.due("how many", x.game(), 2);
        s.dueRow("three parties", lying(x), 1, 2, -1);
        s.due("no more", x.lies(3), -2);
        HedgeRecord y = new HedgeRecord();
        y.plan(3, 1);
        s.due("without parties", y.game(), 0);
        s.dueRow("nothing lies there", lying(y));
        s.due("nothing lies there", y.lies(0), -2);
        HedgeRecord z = s.taken("plant p life 5;topic t;bill a of p at 0 says t 5;party r;wants r t 0 by 1;");
        s.due("one party", z.game(), 1);
        s.dueRow("one party", lying(z), 0);
        s.due("it is not done", z.bill(0, 0), 5);
        HedgeRecord w = s.taken("plant p life 5;topic s;topic t;topic u;bill a of p at 0 says s 5;bill b of p at 0 says t 5;"
            + "bill c of p at 0 says u 5;"
            + "party r;party g;party h;wants r u 0 by 1;wants g t 0 by 1;wants h s 0 by 1;");
        s.due("three", w.game(), 3);
        s.dueRow("each one of its own", lying(w), 2, 1, 0);
    }

    private void lies() {
        s.of("33", "The i-th number of what lies there; -2 if there is none such.");
        HedgeRecord x = s.taken(PARTIES);
        s.dueRow("nothing yet", new int[] {x.lies(-1), x.lies(0), x.lies(1)}, -2, -2, -2);
        x.game();
        s.dueRow("three", new int[] {x.lies(-1), x.lies(0), x.lies(1), x.lies(2), x.lies(3)}, -2, 1, 2, -1, -2);
        s.dueRow("far off", new int[] {x.lies(FAR[0]), x.lies(FAR[1])}, -2, -2);
        x.plan(1, 1);
        s.dueRow("one", new int[] {x.lies(-1), x.lies(0), x.lies(1), x.lies(2)}, -2, -1, -2, -2);
        x.year();
        x.undo();
        x.image(0);
        x.back(0);
        s.dueRow("it stays till there is another", new int[] {x.lies(0), x.lies(1)}, -1, -2);
        rich.idle("lies of none", y -> y.lies(2), -2);
    }
}
