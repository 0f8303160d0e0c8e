/** Promises 1 to 5: a new object, the tape, and which texts are hedges. */
public final class TextTest {
    private static final Checks CHECKS = new Checks();
    private static final String PLANT = "plant p life 5;";

    public static void main(String[] args) {
        newObject();
        feeding();
        ending();
        hedgeIsReplaced();
        faultStays();
        tokens();
        edges();
        misplaced();
        tooMany();
        toldAlready();
        numbers();
        unknownNames();
        formulaGrammar();
        formulaLimits();
        CHECKS.finish();
    }

    private static void due(String call, long got, long want) {
        CHECKS.due(call, got, want);
    }

    private static void newObject() {
        HedgeRecord x = new HedgeRecord();
        int[] wanted = {0, 8, 0, 0, 0, 0, 0, 0, 0, 0, 0, 0, 0, 0, 0};
        for (int what = 0; what < wanted.length; what++) {
            due("1: about " + what, x.about(what), wanted[what]);
        }
        due("1: gaps", x.gaps(), 255);
        due("1: stands", x.stands(), 0);
        due("1: fault 0", x.fault(0), 0);
        due("1: fault 1", x.fault(1), -1);
        due("1: lies", x.lies(0), -2);
        CHECKS.due("1: undo", x.undo(), false);
        CHECKS.due("1: redo", x.redo(), false);
        due("1: back", x.back(0), -1);
        due("1: NONE", HedgeRecord.NONE, -1);
    }

    private static void feeding() {
        HedgeRecord x = new HedgeRecord();
        for (int i = 1; i <= 80; i++) {
            due("2: feed " + i, x.feed(0, 0, 0, 0, 0), 20 * i);
        }
        due("2: feed beyond", x.feed(0, 0, 0, 0, 0), -1);
        due("2: still", x.about(12), 1600);
        due("2: one byte less", x.end(1581), 1581);
        due("2: no room for 20", x.feed(0, 0, 0, 0, 0), -1);
        due("2: still 1581", x.about(12), 1581);
        due("2: room again", x.end(1580), 1580);
        due("2: full", x.feed(0, 0, 0, 0, 0), 1600);
        HedgeRecord y = new HedgeRecord();
        // "topi" "c a;" "topi" "c b;" and four blanks: the highest byte of each number comes first.
        due("2: order of bytes", y.feed(0x746f7069, 0x6320613b, 0x746f7069, 0x6320623b, 0x20202020), 20);
        due("2: read", y.hedge(), 0);
        due("2: two topics", y.about(3), 2);
        due("2: bytes above 127", y.feed(0xff000000, 0, 0, 0, 0), 20);
        due("2: are no token", y.hedge(), -1);
        due("2: fault", y.fault(0), 1);
        due("2: place", y.fault(1), 0);
    }

    private static void ending() {
        HedgeRecord x = new HedgeRecord();
        due("3: end 0 of an empty tape", x.end(0), 0);
        due("3: end 1 of an empty tape", x.end(1), -1);
        x.feed(0, 0, 0, 0, 0);
        due("3: below 0", x.end(-1), -1);
        due("3: too many", x.end(21), -1);
        due("3: nothing done", x.about(12), 20);
        due("3: all", x.end(20), 20);
        due("3: some", x.end(7), 7);
        due("3: none comes back", x.end(8), -1);
        due("3: bytes come behind", x.feed(0, 0, 0, 0, 0), 27);
        due("3: least number", x.end(Integer.MIN_VALUE), -1);
        due("3: greatest number", x.end(Integer.MAX_VALUE), -1);
    }

    private static void hedgeIsReplaced() {
        HedgeRecord x = Checks.told("stakes 4;plant p life 5;topic t;party q;wants q t 3 by 2;"
            + "bill a of p at 1 says t 4;bill b of p at 2;grow life-1;frost 20 of 3;draw 77;");
        x.later(5);
        x.ring(0, 1, true);
        x.year();
        x.pull(0);
        x.undo();
        x.image(1);
        x.game();
        due("4: lies", x.about(14), 1);
        due("4: the tape is empty", x.about(12), 0);
        due("4: new hedge", Checks.read(x, "plant r life 7 hardy;bill z of r at 7;"), 1);
        int[] wanted = {1, 8, 1, 0, 0, 0, 0, 7, 0, 0, 0, 5, 0, 0, 0};
        for (int what = 0; what < wanted.length; what++) {
            due("4: about " + what, x.about(what), wanted[what]);
        }
        due("4: boxes are empty", x.back(1), -1);
        CHECKS.due("4: no acts", x.undo(), false);
        CHECKS.due("4: none undone", x.redo(), false);
        due("4: year without growth and frost", x.year(), 0);
        due("4: life", x.bill(0, 0), 7);
        due("4: empty text", Checks.read(x, ""), 0);
        due("4: eight stakes", x.about(1), 8);
        due("4: blanks alone", Checks.read(x, " \n "), 0);
        due("4: joy is gone", x.joy(0), 1);
        String wants = "plant p life 5;bill a of p at 0;topic t;party q;wants q t 3 by 2;";
        for (int i = 0; i < 4; i++) {
            due("4: the same again", Checks.read(x, wants + "grow 3;"), 1);
        }
        for (int i = 0; i < 2; i++) {
            due("4: without growth", Checks.read(x, wants), 1);
            x.year();
            due("4: does not grow", x.bill(0, 0), 5);
        }
    }

    private static void faultStays() {
        HedgeRecord x = Checks.told("stakes 4;plant p life 5;topic t;bill a of p at 1 says t 4;");
        x.year();
        x.ring(0, 0, true);
        x.image(0);
        x.plan(1, 1);
        due("4: fault", Checks.read(x, "stakes 6;plant q life 9;grow 5;draw 3;bill"), -1);
        due("5: fault", x.fault(0), 2);
        due("5: place", x.fault(1), 42);
        due("5: another what", x.fault(2), -1);
        due("5: what below 0", x.fault(-1), -1);
        due("4: the tape is empty", x.about(12), 0);
        int[] wanted = {1, 4, 1, 1, 0, 1, 71, 5, 1, 0, 0, 0, 0, 0, 1};
        for (int what = 0; what < wanted.length; what++) {
            due("4: all stays, about " + what, x.about(what), wanted[what]);
        }
        due("4: law", x.law(0), 4);
        due("4: box stays", x.back(0), 1);
        due("5: fine again", Checks.read(x, "topic t;"), 0);
        due("5: no fault", x.fault(0), 0);
        due("5: no place", x.fault(1), -1);
    }

    private static void tokens() {
        CHECKS.faulty("$", 1, 0);
        CHECKS.faulty("topic t;\ttopic u;", 1, 8);
        CHECKS.faulty("Topic t;", 1, 0);
        CHECKS.faulty("topic T;", 1, 6);
        CHECKS.faulty("topic t\r;", 1, 7);
        CHECKS.faulty("topic t\u0000", 1, 7);
        CHECKS.faulty("topic abcdefghi;", 1, 6);
        CHECKS.fine("topic abcdefgh;", 0);
        CHECKS.faulty("plant p life 00001;", 1, 13);
        CHECKS.fine("plant p life 0001;", 0);
        CHECKS.faulty("plant p life 5hardy;", 1, 13);
        CHECKS.faulty("draw 5a", 1, 5);
        CHECKS.faulty("draw 5z", 1, 5);
        CHECKS.faulty("draw 5A", 1, 6);
        CHECKS.fine("plant p life5 hardy;", 0);
        CHECKS.fine("stakes2;\n\nplant\np life 1 hardy;", 0);
        CHECKS.fine("grow(life)*2-1<3;", 0);
        CHECKS.faulty("grow 12345;", 1, 5);
        CHECKS.fine("grow 9999;", 0);
        CHECKS.faulty("stakes 5 topic t$;", 2, 9);
        CHECKS.faulty("topic t; ?", 1, 9);
    }

    /** What is on the tape behind its end does not count. */
    private static void cut(String whole, int length, int fault, int place) {
        HedgeRecord x = new HedgeRecord();
        Checks.tape(x, whole.getBytes());
        due("3: cut '" + whole + "'", x.end(length), length);
        due("4: cut '" + whole + "'", x.hedge(), -1);
        due("5: fault of '" + whole + "' cut at " + length, x.fault(0), fault);
        due("5: place of '" + whole + "' cut at " + length, x.fault(1), place);
    }

    private static void edges() {
        cut("topic t        ;", 7, 2, 7);
        cut("topic tables;", 7, 2, 7);
        cut("stakes 12;", 8, 4, 7);
        cut("stakes 5a", 8, 2, 8);
        CHECKS.fine(Checks.times(" ", 1600), 0);
        CHECKS.fine(Checks.times("\n", 1592) + "topic t;", 0);
        CHECKS.faulty(Checks.times(" ", 1592) + "topic tt", 2, 1600);
        CHECKS.faulty(Checks.times(" ", 1594) + "draw 5", 2, 1600);
        CHECKS.faulty(Checks.times(" ", 1599) + "$", 1, 1599);
        CHECKS.faulty(Checks.times("a", 1600), 1, 0);
        CHECKS.faulty(Checks.times("1", 1600), 1, 0);
        CHECKS.faulty(Checks.times(";", 1600), 2, 0);
        CHECKS.faulty("grow " + Checks.times("(", 1595), 2, 12);
    }

    private static void misplaced() {
        CHECKS.faulty(";", 2, 0);
        CHECKS.faulty("5;", 2, 0);
        CHECKS.faulty("hello;", 2, 0);
        CHECKS.faulty("life;", 2, 0);
        CHECKS.faulty("topic t", 2, 7);
        CHECKS.faulty("topic t  \n", 2, 10);
        CHECKS.faulty("topic", 2, 5);
        CHECKS.faulty("topic ;", 2, 6);
        CHECKS.faulty("topic 5;", 2, 6);
        CHECKS.faulty("topic t u;", 2, 8);
        CHECKS.faulty("topic t;stakes 5;", 2, 8);
        CHECKS.faulty("stakes 5;stakes 5;", 2, 9);
        CHECKS.faulty("stakes;", 2, 6);
        CHECKS.faulty("stakes -5;", 2, 7);
        CHECKS.faulty("plant p;", 2, 7);
        CHECKS.faulty("plant p life;", 2, 12);
        CHECKS.faulty("plant p life -1;", 2, 13);
        CHECKS.faulty("plant p hardy life 1;", 2, 8);
        CHECKS.faulty("party by;", 2, 6);
        CHECKS.faulty("bill near", 2, 5);
        CHECKS.faulty(PLANT + "bill b at 1;", 2, 22);
        CHECKS.faulty(PLANT + "bill b of p;", 2, 26);
        CHECKS.faulty(PLANT + "bill b of p at;", 2, 29);
        CHECKS.faulty(PLANT + "bill b of p at 1 says;", 2, 36);
        CHECKS.faulty(PLANT + "topic t;bill b of p at 1 says t;", 2, 46);
        CHECKS.faulty(PLANT + "topic t;bill b of p at 1 says t -;", 2, 48);
        CHECKS.faulty(PLANT + "topic t;bill b of p at 1 says t - -1;", 2, 49);
        CHECKS.faulty(PLANT + "topic t;bill a of p at 1;bill b of p at 1 amends a says t 1;", 2, 66);
        CHECKS.faulty(PLANT + "bill b of life;", 2, 25);
        CHECKS.faulty("party p;topic t;wants p t 1;", 2, 27);
        CHECKS.faulty("party p;topic t;wants p t by 1;", 2, 26);
        CHECKS.faulty("wants;", 2, 5);
        CHECKS.faulty("frost 5;", 2, 7);
        CHECKS.faulty("frost 5 of;", 2, 10);
        CHECKS.faulty("frost of 5;", 2, 6);
        CHECKS.faulty("draw;", 2, 4);
        CHECKS.faulty("draw -1;", 2, 5);
        for (String word : ("stakes plant topic bill party wants grow frost draw life hardy of at says amends repeals by or "
            + "and not age stake near year").split(" ")) {
            CHECKS.faulty("topic " + word + ";", 2, 6);
        }
        for (String word : "one sum term unit both line hedge name e n v years stak".split(" ")) {
            CHECKS.fine("topic " + word + ";", 0);
        }
    }

    private static void tooMany() {
        CHECKS.fine("plant a life 1;plant b life 1;plant c life 1;plant d life 1;", 0);
        CHECKS.faulty("plant a life 1;plant b life 1;plant c life 1;plant d life 1;plant $", 2, 60);
        CHECKS.fine("topic a;topic b;topic c;topic d;", 0);
        CHECKS.faulty("topic a;topic b;topic c;topic d; topic a;", 2, 33);
        CHECKS.fine("party a;party b;party c;", 0);
        CHECKS.faulty("party a;party b;party c;party d;", 2, 24);
        StringBuilder bills = new StringBuilder(PLANT);
        for (char c = 'a'; c < 'i'; c++) {
            bills.append("bill ").append(c).append(" of p at 0;");
        }
        CHECKS.fine(bills.toString(), 8);
        CHECKS.faulty(bills + "bill i of p at 0;", 2, bills.length());
        CHECKS.faulty("grow 1;topic t;grow 1;", 2, 15);
        CHECKS.faulty("frost 1 of 1;frost 1 of 1;", 2, 13);
        CHECKS.faulty("draw 1;draw 1;", 2, 7);
    }

    private static void toldAlready() {
        CHECKS.faulty(PLANT + "plant p", 3, 21);
        CHECKS.faulty("topic t;topic t;", 3, 14);
        CHECKS.faulty("party t;party t;", 3, 14);
        CHECKS.faulty(PLANT + "bill b of p at 0;bill b of p at 0;", 3, 37);
        CHECKS.fine("plant p life 1;topic p;party p;bill p of p at 0 says p 1;wants p p 1 by 1;", 1);
        CHECKS.fine("topic ab;topic a;topic b;topic ba;", 0);
        CHECKS.faulty("party p;topic t;wants p t 0 by 1;wants p t 1 by 1;", 3, 41);
        CHECKS.fine("party p;party q;topic t;topic u;wants p t 0 by 1;wants p u 0 by 1;wants q t 0 by 1;wants q u 0 by 1;", 0);
    }

    private static void numbers() {
        CHECKS.faulty("stakes 1;", 4, 7);
        CHECKS.fine("stakes 2;", 0);
        CHECKS.fine("stakes 12;", 0);
        CHECKS.faulty("stakes 13;", 4, 7);
        CHECKS.faulty("plant p life 0;", 4, 13);
        CHECKS.fine("plant p life 99;", 0);
        CHECKS.faulty("plant p life 100;", 4, 13);
        CHECKS.fine(PLANT + "bill b of p at 7;", 1);
        CHECKS.faulty(PLANT + "bill b of p at 8;", 4, 30);
        CHECKS.faulty("stakes 3;" + PLANT + "bill b of p at 3;", 4, 39);
        CHECKS.fine(PLANT + "topic t;bill b of p at 1 says t 9;", 1);
        CHECKS.faulty(PLANT + "topic t;bill b of p at 1 says t 10;", 4, 47);
        CHECKS.fine(PLANT + "topic t;bill b of p at 1 says t -9;", 1);
        CHECKS.fine(PLANT + "topic t;bill b of p at 1 says t - 0;", 1);
        CHECKS.faulty(PLANT + "topic t;bill b of p at 1 says t -  10;", 4, 47);
        CHECKS.faulty("party p;topic t;wants p t -10 by 1;", 4, 26);
        CHECKS.faulty("party p;topic t;wants p t -9 by 0;", 4, 32);
        CHECKS.faulty("party p;topic t;wants p t -9 by 10;", 4, 32);
        CHECKS.fine("party p;topic t;wants p t -9 by 9;", 0);
        CHECKS.fine("frost 0 of 1;", 0);
        CHECKS.fine("frost 100 of 99;", 0);
        CHECKS.faulty("frost 101 of 1;", 4, 6);
        CHECKS.faulty("frost 1 of 0;", 4, 11);
        CHECKS.faulty("frost 1 of 100;", 4, 11);
        CHECKS.fine("draw 0;", 0);
        CHECKS.fine("draw 999;", 0);
        CHECKS.faulty("draw 1000;", 4, 5);
    }

    private static void unknownNames() {
        CHECKS.faulty("bill b of p at 1;", 5, 10);
        CHECKS.faulty("topic p;party p;bill b of p at 1;", 5, 26);
        CHECKS.faulty(PLANT + "bill b of p at 1 says p 1;", 5, 37);
        CHECKS.faulty(PLANT + "bill b of p at 1 amends b;", 5, 39);
        CHECKS.faulty(PLANT + "bill b of p at 1 repeals p;", 5, 40);
        CHECKS.faulty("topic p;wants p p 1 by 1;", 5, 14);
        CHECKS.faulty("party p;wants p p 1 by 1;", 5, 16);
        CHECKS.faulty("plant ab life 1;bill x of a at 1;", 5, 26);
    }

    private static void formulaGrammar() {
        CHECKS.faulty("grow;", 2, 4);
        CHECKS.faulty("grow ();", 2, 6);
        CHECKS.faulty("grow -1;", 2, 5);
        CHECKS.faulty("grow 1+;", 2, 7);
        CHECKS.faulty("grow 1 2;", 2, 7);
        CHECKS.faulty("grow 1<2<3;", 2, 8);
        CHECKS.faulty("grow 1=2>3;", 2, 8);
        CHECKS.fine("grow (1<2)<3;", 0);
        CHECKS.faulty("grow 1+not 2;", 2, 7);
        CHECKS.faulty("grow 1<not 2;", 2, 7);
        CHECKS.fine("grow 1 and not 2 or not not 3;", 0);
        CHECKS.faulty("grow (1;", 2, 7);
        CHECKS.faulty("grow 1);", 2, 6);
        CHECKS.faulty("grow and;", 2, 5);
        CHECKS.faulty("grow not;", 2, 8);
        CHECKS.faulty("grow life and;", 2, 13);
        CHECKS.faulty("grow p;", 2, 5);
        CHECKS.faulty("grow plant;", 2, 5);
        CHECKS.faulty("grow lifes;", 2, 5);
        CHECKS.faulty("grow 1+$;", 1, 7);
        CHECKS.fine("grow life+age-stake*near/year%7;", 0);
        HedgeRecord x = Checks.told("grow life+(age-stake)*((near))/year%7;");
        due("42: units, each ( e ) is one", x.about(13), 9);
    }

    private static void formulaLimits() {
        CHECKS.fine("grow " + Checks.times("1+", 29) + "1;", 0);
        CHECKS.faulty("grow " + Checks.times("1+", 30) + "1;", 2, 65);
        CHECKS.faulty("grow " + Checks.times("1+", 30) + "(1);", 2, 65);
        CHECKS.fine("grow " + Checks.times("(1)+", 14) + "1+1;", 0);
        CHECKS.faulty("grow " + Checks.times("(1)+", 14) + "1+(1);", 2, 64);
        CHECKS.faulty("grow (" + Checks.times("1+", 29) + "1);", 2, 64);
        CHECKS.fine("grow " + Checks.times("(", 7) + "1" + Checks.times(")", 7) + ";", 0);
        CHECKS.faulty("grow " + Checks.times("(", 8) + "1" + Checks.times(")", 8) + ";", 2, 12);
        CHECKS.fine("grow " + Checks.times("not ", 7) + "1;", 0);
        CHECKS.faulty("grow " + Checks.times("not ", 8) + "1;", 2, 33);
        CHECKS.fine("grow not(not(not(not 1+1)));", 0);
        CHECKS.faulty("grow not(not(not(not(1))));", 2, 20);
        CHECKS.faulty("grow (not(not(not(not 1))));", 2, 18);
        CHECKS.fine("grow (((1)))+(((((((1)))))));", 0);
        CHECKS.fine("grow " + Checks.times(Checks.times("not ", 7) + "1 and ", 29) + Checks.times("not ", 7) + "1;", 0);
    }
}
