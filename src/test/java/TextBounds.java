/** The bounds of a text ("What it is", ==== 1 of the terms) and of the promises 1 to 5. */
final class TextBounds {
    private static final String[] WORDS = ("stakes plant topic bill party wants grow frost draw life hardy of at says amends "
        + "repeals by or and not age stake near year").split(" ");
    private static final String BASE = "plant p life 5;topic t;bill a of p at 1;party g;";

    private final Sentences s;

    TextBounds(Sentences s) {
        this.s = s;
    }

    void all() {
        calls512();
        length();
        lines();
        optionalParts();
        formulas();
        words();
        numbers();
        signs();
        blanks();
        longest();
        letterBehindNumber();
        reserved();
        stakes();
        plants();
        topics();
        bills();
        ofPlantAtStake();
        toldAhead();
        parties();
        numbered();
        wants();
        growFrostDraw();
        units();
        within();
        firstByPlace();
        leastAtOnePlace();
        noToken();
        cantStand();
        tooManyUnits();
        toldAlready();
        numberThatCantBe();
        nothingHasTheName();
        newObject();
        feed();
        feedBeyond();
        end();
        endRefused();
        hedge();
        hedgeCounts();
        hedgeFault();
        fault();
        faultOther();
    }

    private void calls512() {
        s.of("W", "An object is used for at most 512 calls after it has been made; what later calls answer is free.");
        HedgeRecord x = new HedgeRecord();
        for (int call = 1; call <= 511; call++) {
            s.due("call " + call, x.year(), 0);
        }
        s.due("call 512", x.about(5), 511);
    }

    private void length() {
        s.of("T1", "A HEDGE is a text of at most 1,600 bytes (empty at first): hedge = {line}.");
        HedgeRecord none = new HedgeRecord();
        s.due("no line", none.hedge(), 0);
        s.due("no line: stakes", none.about(1), 8);
        s.due("empty at first, as a text of no bytes: topics", none.about(3), 0);
        s.due("1,600 bytes, the last counts", s.taken(Checks.times(" ", 1592) + "topic t;").about(3), 1);
        s.refused(2, Checks.times(" ", 1592) + "topic tt^");
        s.refused(1, Checks.times(" ", 1599) + "^?");
        HedgeRecord x = new HedgeRecord();
        Checks.tape(x, (Checks.times(" ", 1593) + "topic t").getBytes());
        s.due("byte 1,601 can't come", x.feed(0x3b202020, 0, 0, 0, 0), -1);
        s.due("so the line has no end", x.hedge(), -1);
        s.due("which is behind byte 1,600", x.fault(1), 1600);
        s.due("one line", s.taken("topic t;").about(3), 1);
        s.due("lines behind one another", s.taken("topic t;topic u;topic v;").about(3), 3);
        StringBuilder most = new StringBuilder("stakes 12;");
        for (char c = 'a'; c < 'e'; c++) {
            most.append("plant ").append(c).append(" life 9;topic ").append(c).append(";");
        }
        for (char c = 'a'; c < 'i'; c++) {
            most.append("bill ").append(c).append(" of a at 11 says a 1;");
        }
        for (char c = 'a'; c < 'd'; c++) {
            most.append("party ").append(c).append(";");
            for (char t = 'a'; t < 'e'; t++) {
                most.append("wants ").append(c).append(" ").append(t).append(" 1 by 1;");
            }
        }
        most.append("grow ").append(Checks.times("1+", 29)).append("1;frost 100 of 99;draw 999;");
        s.due("all that can be told in one text: units", s.taken(most.toString()).about(13), 30);
    }

    /** Each of a line's tokens must stand, where it stands: cut off ahead of it, or with another in its place, it is refused. */
    private void eachToken(String ahead, String line) {
        String[] tokens = line.split(" ");
        for (int i = 0; i < tokens.length; i++) {
            StringBuilder front = new StringBuilder(ahead);
            for (int j = 0; j < i; j++) {
                front.append(tokens[j]).append(' ');
            }
            if (i > 0) {
                s.refused(2, front + "^");
            }
            s.refused(2, front + "^)");
            s.refused(1, front + "^?");
            s.refused(2, front + "^)" + tokens[i]);
        }
        s.taken(ahead + line);
        s.refused(2, ahead + line + "^;");
    }

    private void lines() {
        s.of("T1", "line = stakes N ; | plant NAME life N [hardy] ; | topic NAME ; | bill NAME of NAME at N [says NAME V] "
            + "[amends NAME] [repeals NAME] ; | party NAME ; | wants NAME NAME V by N ; | grow e ; | frost N of N ; | draw N ;"
            + ". V = [-] N.");
        eachToken("", "stakes 5 ;");
        eachToken("", "plant q life 7 ;");
        eachToken("", "plant q life 7 hardy ;");
        eachToken("", "topic u ;");
        eachToken(BASE, "bill b of p at 3 ;");
        eachToken(BASE, "bill b of p at 3 says t 5 amends a repeals a ;");
        eachToken("", "party h ;");
        eachToken(BASE, "wants g t 5 by 3 ;");
        eachToken("", "grow 1 ;");
        eachToken("", "frost 5 of 3 ;");
        eachToken("", "draw 5 ;");
        for (String word : ("life hardy of at says amends repeals by or and not age stake near year name").split(" ")) {
            s.refused(2, "^" + word + " 5;");
        }
    }

    private void optionalParts() {
        s.of("T1", "bill NAME of NAME at N [says NAME V] [amends NAME] [repeals NAME]");
        String[] parts = {"", " says t 3", " amends a", " repeals a"};
        for (int set = 0; set < 8; set++) {
            String line = "bill b of p at 3" + ((set & 1) == 0 ? "" : parts[1]) + ((set & 2) == 0 ? "" : parts[2])
                + ((set & 4) == 0 ? "" : parts[3]) + ";";
            HedgeRecord x = s.taken(BASE + line);
            s.due("topic of " + line, x.bill(1, 4), (set & 1) == 0 ? -1 : 0);
            s.due("says of " + line, x.bill(1, 5), (set & 1) == 0 ? 0 : 3);
            s.due("amends of " + line, x.bill(1, 6), (set & 2) == 0 ? -1 : 0);
            s.due("repeals of " + line, x.bill(1, 7), (set & 4) == 0 ? -1 : 0);
        }
        for (int first = 1; first <= 3; first++) {
            for (int second = 1; second <= first; second++) {
                s.refused(2, BASE + "bill b of p at 3" + parts[first] + " ^" + parts[second].trim() + ";");
            }
        }
        s.of("T1", "plant NAME life N [hardy]");
        s.refused(2, "plant p life 1 hardy ^hardy;");
        s.refused(2, "plant p ^hardy life 1;");
        s.of("T1", "V = [-] N");
        s.due("- and N", s.taken(BASE + "bill b of p at 3 says t -3;").bill(1, 5), -3);
        s.due("N alone", s.taken(BASE + "bill b of p at 3 says t 3;").bill(1, 5), 3);
        s.refused(2, BASE + "bill b of p at 3 says t -^-3;");
        s.refused(2, BASE + "bill b of p at 3 says t ^+3;");
        s.refused(2, BASE + "bill b of p at 3 says t -^;");
        s.refused(2, BASE + "bill b of p at 3 says t -^");
        s.refused(1, BASE + "bill b of p at 3 says t -^?");
        s.refused(2, BASE + "bill b of p at ^-3;");
    }

    private void formulas() {
        s.of("T1", "e = both {or both}. both = one {and one}. one = not one | sum [(< | > | =) sum]. sum = term {(+ | -) term}. "
            + "term = unit {(* | / | %) unit}. unit = N | life | age | stake | near | year | ( e ).");
        for (String e : ("0;9999;life;age;stake;near;year;(1);not 1;not not 1;1 or 2;1 or 2 or 3;1 and 2;1 and 2 and 3;"
            + "1 and 2 or 3 and 4;"
            + "not 1 or not 2;not 1 and not 2;1<2;1>2;1=2;not 1<2;1<2 and 3>4 or 5=6;1+2;1-2;1+2-3+4;1*2;1/2;1%2;1*2/3%4;"
            + "1+2*3<4-5/6;"
            + "(1<2)<3;1<(2<3);(not 1)+1;1+(not 1);1*(2 or 3)").split(";")) {
            s.taken("grow " + e + ";");
        }
        for (String e : ("^;^);^or 1;^and 1;^<1;^=1;^>1;^+1;^-1;^*1;^/1;^%1;1 or ^;1 and ^;not ^;1<^;1+^;1-^;1*^;1/^;1%^;(^;"
            + "(1^;(^);1^);1 ^1;1 ^life;"
            + "1 ^not 1;1 ^(1);1+^not 1;1<^not 1;1*^not 1;1<2^<3;1=2^=3;1>2^<3;1 or ^or 1;1 and ^or 1;1+^+1;1-^-1;1*^-1;"
            + "not ^and 1;not 1 ^not 1;"
            + "^hardy;^stakes;^p;^years;1 ^by 2").split(";")) {
            s.refused(2, "grow " + e + (e.endsWith("^") ? ";" : ""));
        }
        s.refused(2, "grow ^;");
        s.refused(2, "grow 1 ^");
        s.refused(2, "grow (1 ^");
    }

    private void words() {
        s.of("T1", "TOKENS: words (a .. z, 8 at most)");
        s.due("a and z", s.taken("topic a;topic z;topic az;topic za;").about(3), 4);
        s.refused(1, "topic ^`;");
        s.refused(1, "topic ^{;");
        s.refused(1, "topic ^A;");
        s.refused(1, "topic ^Z;");
        s.refused(1, "topic t^T;");
        s.refused(1, "topic t^_;");
        s.due("1 and 8 letters", s.taken("topic t;topic abcdefgh;topic zzzzzzzz;").about(3), 3);
        s.refused(1, "topic ^abcdefghi;");
        s.refused(1, "topic ^abcdefgh" + Checks.times("i", 100) + ";");
        s.refused(1, "^plantplan p life 1;");
        s.due("the eighth letter counts", s.taken("topic abcdefgh;topic abcdefgi;topic bbcdefgh;").about(3), 3);
    }

    private void numbers() {
        s.of("T1", "N (1 to 4 digits)");
        s.due("1 digit", s.taken("draw 9;").about(6), 9);
        s.due("2 digits", s.taken("draw 09;").about(6), 9);
        s.due("3 digits", s.taken("draw 999;").about(6), 999);
        s.due("4 digits", s.taken("draw 0987;").about(6), 987);
        s.taken("grow 0000+9999;");
        s.refused(1, "draw ^00000;");
        s.refused(1, "draw ^00009;");
        s.refused(1, "grow ^10000;");
        s.refused(1, "grow 1+^99999;");
        // 4294967297 is 1 by 2 to the power of 32.
        s.refused(1, "draw ^4294967297;");
        s.refused(2, "draw ^/;");
        s.refused(1, "draw ^:;");
        s.refused(1, "draw ^.5;");
        s.refused(1, "draw 5^.5;");
    }

    private void signs() {
        s.of("T1", "signs ; ( ) < > = + - * / %");
        int noTokens = 0;
        for (int c = 0; c < 256; c++) {
            char sign = (char) c;
            boolean isBlank = c == 32 || c == 10;
            boolean isToken = c >= 'a' && c <= 'z' || c >= '0' && c <= '9' || ";()<>=+-*/%".indexOf(sign) >= 0;
            HedgeRecord x = new HedgeRecord();
            s.due("hedge() of byte " + c, Checks.read(x, String.valueOf(sign)), isBlank ? 0 : -1);
            s.due("fault(0) of byte " + c, x.fault(0), isBlank ? 0 : isToken ? 2 : 1);
            s.due("fault(1) of byte " + c, x.fault(1), isBlank ? -1 : 0);
            noTokens += x.fault(0) == 1 ? 1 : 0;
        }
        s.due("so many bytes are in no token and no blank", noTokens, 256 - 2 - 26 - 10 - 11);
    }

    private void blanks() {
        s.of("T1", "blanks (32, 10) part them or not");
        s.due("none where they need not be", s.taken("stakes3;plant p life5;topic t;bill b of p at2 says t-3;"
            + "grow(1)+2;").bill(0, 5), -3);
        s.due("many", s.taken("\n \nstakes \n 3\n;\n\n").about(1), 3);
        s.due("between any two tokens", s.taken("grow ( 1 ) + 2 * ( life - 1 ) ;").about(13), 6);
        s.due("alone", s.taken(" ").about(0), 0);
        s.due("alone", s.taken("\n").about(0), 0);
        s.refused(1, "topic^\tt;");
        s.refused(1, "topic t;^\r\n");
        s.refused(1, "topic^\u000bt;");
        s.refused(1, "topic^\u001ft;");
        s.refused(1, "topic^!t;");
        s.refused(1, "topic t;^\u00a0");
        s.refused(2, "^to pic t;");
        s.refused(2, "draw 1 ^2;");
    }

    private void longest() {
        s.of("T1", "each is as long as can be");
        s.refused(2, "^topict;");
        s.refused(2, "^lifelife 5;");
        s.refused(2, "plant p ^lifes 5;");
        s.refused(2, "plant p life 5 ^hardyx;");
        s.refused(2, "grow ^notlife;");
        s.refused(2, "grow life ^orage;");
        s.due("12 is not 1 and 2", s.taken("stakes 12;").about(1), 12);
        s.due("stakess is a name", s.taken("topic stakess;topic stak;topic stakesss;").about(3), 3);
        s.due("a word ends where a digit begins", s.taken("stakes7;").about(1), 7);
    }

    private void letterBehindNumber() {
        s.of("T1", "no letter directly behind an N");
        s.refused(1, "draw ^5a;");
        s.refused(1, "draw ^5z");
        s.refused(1, "plant p life ^5hardy;");
        s.refused(1, "grow ^1and 2;");
        s.refused(1, "grow ^9999a;");
        s.taken("plant p life 5 hardy;");
        s.taken("plant p life 5\nhardy;");
        s.refused(1, "draw 5^A;");
        s.refused(1, "draw 5^`;");
        s.refused(1, "draw 5^{;");
        s.taken("grow 1+life;");
        HedgeRecord x = new HedgeRecord();
        Checks.tape(x, "draw 5;a".getBytes());
        s.due("a letter behind the end is none", x.end(6), 6);
        x.hedge();
        s.due("a letter behind the end is none, fault", x.fault(0), 2);
        s.due("a letter behind the end is none, place", x.fault(1), 6);
        Checks.tape(x, "draw 5a".getBytes());
        x.end(6);
        x.hedge();
        s.due("what was on the tape is none, fault", x.fault(0), 2);
        behindTheEnd("draw 55;", 6);
        behindTheEnd("topic tt;", 7);
        behindTheEnd("draw 5 ;", 6);
        s.refused(2, Checks.times(" ", 1594) + "draw 5^");
        s.refused(2, Checks.times(" ", 1592) + "topic tt^");
    }

    /** Cut off behind so many bytes, the text ends there, whatever was behind it. */
    private void behindTheEnd(String text, int length) {
        HedgeRecord x = new HedgeRecord();
        Checks.tape(x, text.getBytes());
        x.end(length);
        s.due("hedge() of " + text + " cut at " + length, x.hedge(), -1);
        s.due("fault(0) of " + text + " cut at " + length, x.fault(0), 2);
        s.due("fault(1) of " + text + " cut at " + length, x.fault(1), length);
    }

    private void reserved() {
        s.of("T1", "Words that stand for themselves here are no NAMES.");
        for (String word : WORDS) {
            s.refused(2, "plant ^" + word + " life 1;");
            s.refused(2, "topic ^" + word + ";");
            s.refused(2, "party ^" + word + ";");
            s.refused(2, BASE + "bill ^" + word + " of p at 0;");
            s.refused(2, BASE + "bill b of ^" + word + " at 0;");
            s.refused(2, BASE + "bill b of p at 0 says ^" + word + " 1;");
            s.refused(2, BASE + "bill b of p at 0 amends ^" + word + ";");
            s.refused(2, BASE + "bill b of p at 0 repeals ^" + word + ";");
            s.refused(2, BASE + "wants ^" + word + " t 1 by 1;");
            s.refused(2, BASE + "wants g ^" + word + " 1 by 1;");
        }
        for (String word : "hedge line name e both one sum term unit v n lives stands yearly plants a".split(" ")) {
            s.due(word + " is a name", s.taken("plant " + word + " life 1;topic " + word + ";party " + word + ";bill " + word
                + " of " + word
                + " at 0 says " + word + " 1;wants " + word + " " + word + " 1 by 1;").about(0), 1);
        }
    }

    private void stakes() {
        s.of("T1", "stakes (2 .. 12; 8 if not told) once, ahead of all others");
        s.due("2", s.taken("stakes 2;").about(1), 2);
        s.due("12", s.taken("stakes 12;").about(1), 12);
        s.due("not told", s.taken("topic t;").about(1), 8);
        s.due("not told, behind another hedge", again("stakes 5;", "topic t;").about(1), 8);
        for (String number : new String[] {"0", "1", "13", "9999"}) {
            s.refused(4, "stakes ^" + number + ";");
        }
        s.refused(2, "stakes 5;^stakes 5;");
        for (String line : new String[] {"plant q life 1;", "topic u;", BASE + "bill b of p at 0;", "party h;", BASE
            + "wants g t 1 by 1;",
            "grow 1;", "frost 1 of 1;", "draw 1;"}) {
            s.refused(2, line + "^stakes 5;");
            s.taken("stakes 5;" + line);
        }
    }

    /** The first text is told more than once, so that nothing of it may be left anywhere. */
    private HedgeRecord again(String first, String second) {
        HedgeRecord x = s.taken(first);
        Checks.read(x, first);
        Checks.read(x, first + "?");
        s.due("hedge() of " + second + " behind another text", Checks.read(x, second) >= 0, true);
        return x;
    }

    private void plants() {
        s.of("T1", "at most 4 PLANTS (life 1 .. 99)");
        String four = "plant a life 1;plant b life 99;plant c life 2 hardy;plant d life 98;";
        s.due("4", s.taken(four).about(2), 4);
        s.refused(2, four + "^plant e life 1;");
        s.refused(2, four + "^plant a life 1;");
        s.refused(2, four + "^plant");
        s.due("life 1", s.taken(four + "bill x of a at 0;").bill(0, 0), 1);
        s.due("life 99", s.taken(four + "bill x of b at 0;").bill(0, 0), 99);
        s.refused(4, "plant p life ^0;");
        s.refused(4, "plant p life ^100;");
        s.refused(4, "plant p life ^9999;");
        s.due("four more in another text", again(four, four).about(2), 4);
    }

    private void topics() {
        s.of("T1", "4 TOPICS");
        String four = "topic a;topic b;topic c;topic d;";
        s.due("4", s.taken(four).about(3), 4);
        s.refused(2, four + "^topic e;");
        s.due("four more in another text", again(four, four).about(3), 4);
    }

    private static String bills(int n) {
        StringBuilder text = new StringBuilder("plant p life 5;topic t;");
        for (int i = 0; i < n; i++) {
            text.append("bill ").append((char) ('a' + i)).append(" of p at ").append(i % 8).append(";");
        }
        return text.toString();
    }

    private void bills() {
        s.of("T1", "8 BILLS");
        s.due("8", s.taken(bills(8)).about(0), 8);
        s.refused(2, bills(8) + "^bill i of p at 0;");
        s.refused(2, bills(8) + "^bill ?");
        s.due("eight more in another text", again(bills(8), bills(8)).about(0), 8);
    }

    private void ofPlantAtStake() {
        s.of("T1", "(of a PLANT, at a STAKE 0 .. stakes - 1; of a TOPIC -9 .. 9;");
        int[] stakes = {2, 8, 12};
        for (int n : stakes) {
            String ahead = (n == 8 ? "" : "stakes " + n + ";") + "plant p life 5;bill b of p at ";
            s.due("at 0 of " + n, s.taken(ahead + "0;").bill(0, 2), 0);
            s.due("at the last of " + n, s.taken(ahead + (n - 1) + ";").bill(0, 2), n - 1);
            s.refused(4, ahead + "^" + n + ";");
            s.refused(4, ahead + "^9999;");
        }
        String says = "plant p life 5;topic t;bill b of p at 0 says t ";
        s.due("-9", s.taken(says + "-9;").bill(0, 5), -9);
        s.due("9", s.taken(says + "9;").bill(0, 5), 9);
        s.due("0", s.taken(says + "0;").bill(0, 5), 0);
        s.due("-0", s.taken(says + "-0;").bill(0, 5), 0);
        s.refused(4, says + "^10;");
        s.refused(4, says + "^-10;");
        s.refused(4, says + "^9999;");
        s.refused(4, says + "^-9999;");
    }

    private void toldAhead() {
        s.of("T1", "amends a BILL, repeals a BILL, all told ahead)");
        String plant = "plant p life 5;";
        s.refused(5, "bill b of ^p at 0;" + plant);
        s.refused(5, plant + "bill b of p at 0 says ^t 1;topic t;");
        s.refused(5, plant + "bill b of p at 0 amends ^c;bill c of p at 0;");
        s.refused(5, plant + "bill b of p at 0 repeals ^c;bill c of p at 0;");
        s.refused(5, plant + "bill b of p at 0 amends ^b;");
        s.refused(5, plant + "bill b of p at 0 repeals ^b;");
        HedgeRecord x = s.taken(bills(7) + "bill h of p at 0 amends a repeals g;");
        s.due("the first told", x.bill(7, 6), 0);
        s.due("the last told", x.bill(7, 7), 6);
        s.refused(5, plant + "bill b of ^t at 0;topic t;");
        HedgeRecord y = s.taken(plant + "bill b of p at 0;topic t;");
        s.due("what another text told is not told", Checks.read(y, "plant q life 1;bill c of p at 0;"), -1);
        s.due("what another text told is not told, fault", y.fault(0), 5);
        Checks.read(y, plant + "bill c of p at 0 amends b;");
        s.due("a bill of another text is not told, fault", y.fault(0), 5);
        Checks.read(y, plant + "bill c of p at 0 says t 1;");
        s.due("a topic of another text is not told, fault", y.fault(0), 5);
    }

    private void parties() {
        s.of("T1", "3 PARTIES");
        String three = "party a;party b;party c;";
        s.due("3", s.taken(three).about(4), 3);
        s.refused(2, three + "^party d;");
        s.due("three more in another text", again(three, three).about(4), 3);
    }

    private void numbered() {
        s.of("T1", "numbered as told, each sort by itself");
        HedgeRecord x = s.taken("topic z;plant z life 1;party z;topic y;plant y life 2;bill z of y at 3 says y 1;"
            + "bill y of z at 4 says z 2;"
            + "party y;wants y z 9 by 1;");
        s.dueRow("plants", new int[] {x.bill(0, 3), x.bill(1, 3)}, 1, 0);
        s.dueRow("topics", new int[] {x.bill(0, 4), x.bill(1, 4)}, 1, 0);
        s.dueRow("bills", new int[] {x.bill(0, 2), x.bill(1, 2)}, 3, 4);
        s.dueRow("parties", new int[] {x.joy(0), x.joy(1)}, 0, -7);
    }

    private void wants() {
        s.of("T1", "wants (of a PARTY a TOPIC, both told ahead, each with each once; -9 .. 9, by a weight 1 .. 9)");
        String ahead = "party g;topic t;wants g t ";
        s.due("-9 by 1", s.taken(ahead + "-9 by 1;").joy(0), -9);
        s.due("9 by 9", s.taken(ahead + "9 by 9;").joy(0), -81);
        s.due("-0", s.taken(ahead + "-0 by 9;").joy(0), 0);
        s.refused(4, ahead + "^10 by 1;");
        s.refused(4, ahead + "^-10 by 1;");
        s.refused(4, ahead + "1 by ^0;");
        s.refused(4, ahead + "1 by ^10;");
        s.refused(2, ahead + "1 by ^-1;");
        s.refused(5, "topic t;wants ^g t 1 by 1;party g;");
        s.refused(5, "party g;wants g ^t 1 by 1;topic t;");
        s.refused(3, ahead + "1 by 1;wants g ^t 1 by 1;");
        StringBuilder all = new StringBuilder("party a;party b;party c;topic a;topic b;topic c;topic d;");
        for (char p = 'a'; p < 'd'; p++) {
            for (char t = 'a'; t < 'e'; t++) {
                all.append("wants ").append(p).append(' ').append(t).append(" 9 by 9;");
            }
        }
        HedgeRecord x = s.taken(all.toString());
        s.dueRow("each with each", new int[] {x.joy(0), x.joy(1), x.joy(2)}, -324, -324, -324);
        s.refused(3, all + "wants a ^a 1 by 1;");
        s.refused(3, all + "wants c ^d 1 by 1;");
        s.due("each once in each text", again(all.toString(), all.toString()).joy(2), -324);
        s.due("what another text told is not wanted", again(all.toString(), "party a;topic a;").joy(0), 0);
    }

    /** With draw 17 the first rest by 100 is 0, with draw 44 it is 99. */
    private HedgeRecord afterYear(String lines) {
        HedgeRecord x = s.taken("plant p life 99;bill b of p at 0;" + lines);
        x.year();
        return x;
    }

    private void growFrostDraw() {
        s.of("T1", "grow, frost (0 .. 100 by 100, of 1 .. 99; 0 of 1), draw (0 .. 999; 0) once each");
        s.due("frost 0 with a rest of 0", afterYear("frost 0 of 99;draw 17;").bill(0, 0), 99);
        s.due("frost 1 with a rest of 0, of 99", afterYear("frost 1 of 99;draw 17;").bill(0, 0), 0);
        s.due("frost 99 with a rest of 99", afterYear("frost 99 of 1;draw 44;").bill(0, 0), 99);
        s.due("frost 100 with a rest of 99, of 1", afterYear("frost 100 of 1;draw 44;").bill(0, 0), 98);
        s.due("frost not told, with a rest of 0", afterYear("draw 17;").bill(0, 0), 99);
        s.refused(4, "frost ^101 of 1;");
        s.refused(4, "frost ^9999 of 1;");
        s.refused(4, "frost 1 of ^0;");
        s.refused(4, "frost 1 of ^100;");
        s.due("draw 0", s.taken("draw 0;").about(6), 0);
        s.due("draw 999", s.taken("draw 999;").about(6), 999);
        s.due("draw not told", s.taken("").about(6), 0);
        s.refused(4, "draw ^1000;");
        s.refused(4, "draw ^9999;");
        s.refused(2, "draw 1;^draw 1;");
        s.refused(2, "frost 1 of 1;^frost 1 of 1;");
        s.refused(2, "grow 1;^grow 1;");
        s.due("one of each", s.taken("grow 1;frost 1 of 1;draw 1;").about(13), 1);
        s.due("once more in another text", again("grow 1;frost 1 of 1;draw 1;", "draw 2;frost 2 of 2;grow 1+1;").about(6), 2);
        HedgeRecord x = again("grow 5;frost 100 of 9;draw 3;", "plant p life 50;bill b of p at 0;");
        s.due("not told, behind another text: draw", x.about(6), 0);
        x.year();
        s.due("not told, behind another text: grow and frost", x.bill(0, 0), 50);
        HedgeRecord y = again("plant p life 9 hardy;plant q life 9 hardy;", "plant p life 9;bill a of p at 0;frost 100 of 3;");
        y.year();
        s.due("hardy not told, behind another text", y.bill(0, 0), 6);
    }

    private void units() {
        s.of("T1", "60 units in all, 30 in one e");
        s.due("30", s.taken("grow " + Checks.times("1+", 29) + "1;").about(13), 30);
        s.refused(2, "grow " + Checks.times("1+", 30) + "^1;");
        s.refused(2, "grow " + Checks.times("life and ", 30) + "^life;");
        // A unit ( e ) is one, and those within it are in the e around it, too; so 60 in all are never come to.
        s.due("30, one of them around others", s.taken("grow (" + Checks.times("1+", 28) + "1);").about(13), 30);
        s.refused(2, "grow (" + Checks.times("1+", 29) + "^1);");
        s.refused(2, "grow " + Checks.times("1+", 30) + "^(1);");
        s.due("30 by twos", s.taken("grow " + Checks.times("(1)+", 14) + "(1);").about(13), 30);
        s.refused(2, "grow " + Checks.times("(1)+", 15) + "^(1);");
        s.due("30 again in another text", again("grow " + Checks.times("1+", 29) + "1;", "grow " + Checks.times("1+", 29)
            + "1;").about(13), 30);
        HedgeRecord x = s.taken("plant p life 5;bill b of p at 0;grow " + Checks.times("1+", 29) + "1;");
        x.year();
        s.due("all 30 count", x.bill(0, 0), 35);
        String nots = Checks.times("not ", 7) + "life";
        HedgeRecord y = s.taken("plant p life 5;bill b of p at 0;grow " + Checks.times(nots + " or ", 29)
            + Checks.times("not ", 6) + "life;");
        y.year();
        s.due("as many nots as can be, the last one makes it so", y.bill(0, 0), 6);
        HedgeRecord z = s.taken("plant p life 50;bill b of p at 0;grow 1-(2-(3-(4-(5-(6-(7-(8+" + Checks.times("1*", 13)
            + "1)))))));");
        z.year();
        s.due("as many kept as can be", z.bill(0, 0), 45);
    }

    private void within() {
        s.of("T1", "(a unit ( e ), or a one behind not, within 6 others at most)");
        for (int nots = 0; nots <= 7; nots++) {
            String head = Checks.times("not ", nots) + Checks.times("(", 7 - nots);
            String tail = Checks.times(")", 7 - nots);
            s.taken("grow " + head + "life" + tail + ";");
            s.refused(2, "grow " + head + "^(life)" + tail + ";");
            s.refused(2, "grow " + head + "^not life" + tail + ";");
        }
        s.taken("grow not (not (not (not 1)));");
        s.refused(2, "grow not (not (not (not ^(1))));");
        s.refused(2, "grow (not (not (not (^not 1))));");
        s.taken("grow (((((((1)))))))+(((((((1)))))));");
        s.taken("grow not not not not not not not 1 and not not not not not not not 1;");
        s.taken("grow (((((((1+life*2<3 and age)))))));");
        HedgeRecord x = s.taken("plant p life 5;bill b of p at 0;grow (((((((3)))))))+0;");
        x.year();
        s.due("the innermost counts", x.bill(0, 0), 8);
    }

    private void firstByPlace() {
        s.of("T1", "FAULTS, the first by its place (bytes from 0; the end: the text's length)");
        s.refused(1, "^?");
        s.refused(2, "^;");
        s.refused(2, "topic^");
        s.refused(2, "topic t^");
        s.refused(2, "topic t \n ^");
        s.refused(2, Checks.times(" ", 1595) + "topic^");
        s.refused(3, "topic t;topic ^t;stakes 1;?");
        s.refused(2, "topic t;^stakes 1;?");
        s.refused(4, "stakes ^1;?");
        s.refused(5, "bill b of ^p at ?");
        s.refused(2, "topic t ^topic t;?");
        s.refused(1, "^?topic t;stakes 1;");
        s.refused(4, "stakes ^13");
        s.refused(3, "topic t;topic ^t");
        s.refused(5, "wants ^g");
        s.refused(1, "stakes 5;  \n^?");
    }

    private void leastAtOnePlace() {
        s.of("T1", "at one place the least");
        // No token is none that can stand there, either, and no number that can be.
        s.refused(1, "^abcdefghi 5;");
        s.refused(1, "topic ^12345;");
        s.refused(1, "topic ^5a");
        s.refused(1, "stakes ^12345;");
        s.refused(1, "stakes ^1a;");
        s.refused(1, "draw ^99999;");
        s.refused(1, "topic abcdefgh;topic ^abcdefghh;");
        s.refused(1, "grow " + Checks.times("1+", 30) + "^12345;");
        s.refused(1, "grow " + Checks.times("(", 7) + "^12345");
        s.refused(1, BASE + "bill b of ^pppppppppp at 0;");
        // A line too many is told ahead of its name, which is told already.
        s.refused(2, "party a;party b;party c;^party a;");
    }

    private void noToken() {
        s.of("T1", "1 no TOKEN");
        s.refused(1, "topic t^$;");
        s.refused(1, "topic t;^#");
        s.refused(1, "grow 1^&2;");
        s.refused(1, "grow ^!1;");
        s.refused(1, "topic t^,");
        s.refused(1, "topic t;^\u0000");
        s.refused(1, "topic t;^\u00ff");
        s.refused(1, "topic t;^\u0080");
    }

    private void cantStand() {
        s.of("T1", "2 one that can't stand there (one of a sort too many, a second time, stakes behind another line: at the line's first word;");
        s.refused(2, "plant a life 1;plant b life 1;plant c life 1;plant d life 1; ^plant e life 1;");
        s.refused(2, "topic a;topic b;topic c;topic d; \n^topic e;");
        s.refused(2, "party a;party b;party c; ^party d;");
        s.refused(2, bills(8) + " ^bill i of p at 0;");
        s.refused(2, "grow 1; ^grow 2;");
        s.refused(2, "grow 1;topic t;draw 1;^grow 2;");
        s.refused(2, "frost 1 of 1; ^frost 2 of 2;");
        s.refused(2, "draw 1; ^draw 2;");
        s.refused(2, "stakes 5; ^stakes 5;");
        s.refused(2, "topic t; ^stakes 5;");
        s.refused(2, "^5;");
        s.refused(2, "^t;");
        s.refused(2, "^(");
        s.refused(2, "topic ^5;");
        s.refused(2, "topic t ^t;");
    }

    private void tooManyUnits() {
        s.of("T1", "a unit too many, what is within 7 others: at its first TOKEN, or the not);");
        s.refused(2, "grow " + Checks.times("1+", 30) + " ^1;");
        s.refused(2, "grow " + Checks.times("1+", 30) + "^(1+1);");
        s.refused(2, "grow " + Checks.times("1 and ", 30) + "not ^1;");
        s.refused(2, "grow (((((((1+^(2)))))))));");
        s.refused(2, "grow (((((((1 and ^not 2)))))));");
        s.refused(2, "grow (((((((^not (2))))))));");
        s.refused(2, "grow not not not not not not not ^not 1;");
    }

    private void toldAlready() {
        s.of("T1", "3 a NAME told already (of its sort), a PARTY with a TOPIC told already (at the second NAME)");
        s.refused(3, "plant p life 1;plant ^p life 2;");
        s.refused(3, "plant p life 1;plant q life 1;plant ^p");
        s.refused(3, "topic t;topic ^t;");
        s.refused(3, "party g;party ^g;");
        s.refused(3, BASE + "bill ^a of p at 0;");
        s.refused(3, "topic a;topic b;topic c;topic ^a;");
        s.refused(3, "topic a;topic b;topic c;topic ^c;");
        s.refused(3, bills(7) + "bill ^g");
        s.taken("plant x life 1;topic x;party x;bill x of x at 0;");
        s.taken("topic a;topic b;topic ab;topic ba;");
        s.refused(3, "party g;topic t;wants g t 1 by 1;wants  g  ^t");
        s.refused(3, "party g;topic t;topic u;wants g u 1 by 1;wants g t 1 by 1;wants g ^u 2 by 2;");
        s.taken("party g;party h;topic t;wants g t 1 by 1;wants h t 1 by 1;");
        s.taken("party g;topic t;topic u;wants g t 1 by 1;wants g u 1 by 1;");
        s.taken("party g;topic t;party h;topic u;wants g u 0 by 1;wants h t 0 by 1;");
    }

    private void numberThatCantBe() {
        s.of("T1", "4 a number that can't be (of V at its sign, if it has one)");
        s.refused(4, "stakes  ^1;");
        s.refused(4, "plant p life ^100");
        s.refused(4, BASE + "bill b of p at ^8");
        s.refused(4, BASE + "bill b of p at 0 says t ^10");
        s.refused(4, BASE + "bill b of p at 0 says t ^-10");
        s.refused(4, BASE + "bill b of p at 0 says t ^- \n 10");
        s.refused(4, BASE + "wants g t ^10");
        s.refused(4, BASE + "wants g t ^-  10");
        s.refused(4, BASE + "wants g t 1 by ^0");
        s.refused(4, "frost ^101");
        s.refused(4, "frost 100 of ^0");
        s.refused(4, "draw ^1000");
        s.refused(2, "draw 999^");
        s.refused(2, BASE + "bill b of p at 0 says t -9^");
    }

    private void nothingHasTheName() {
        s.of("T1", "5 a NAME that nothing of the sort has.");
        s.refused(5, BASE + "bill b of ^t");
        s.refused(5, BASE + "bill b of ^pp");
        s.refused(5, BASE + "bill b of p at 0 says ^p");
        s.refused(5, BASE + "bill b of p at 0 amends ^t");
        s.refused(5, BASE + "bill b of p at 0 repeals ^g");
        s.refused(5, BASE + "wants ^a");
        s.refused(5, BASE + "wants g ^g");
        s.refused(5, "plant ab life 1;bill b of ^a");
        s.refused(5, "plant ab life 1;bill b of ^abc");
        // Both would be of one kind if letters were counted together.
        s.refused(5, "plant abcdefgh life 1;bill b of ^bcdefgh");
    }

    private void newObject() {
        s.of("1", "An empty HEDGE (8 STAKES).");
        HedgeRecord x = new HedgeRecord();
        s.dueRow("about", Checks.row(17, what -> x.about(what - 1)), -1, 0, 8, 0, 0, 0, 0, 0, 0, 0, 0, 0, 0, 0, 0, 0, -1);
        s.due("the last stake", x.stake(7, 0), 0);
        s.due("behind the last stake", x.stake(8, 0), -1);
        s.dueRow("none of each", new int[] {x.bill(0, 0), x.law(0), x.joy(0), x.lies(0), x.saddest()}, -100, -1000, 1, -2, -1);
        s.alike("as behind hedge() of an empty tape", Twins.everything(x), Twins.everything(s.taken("")));
    }

    private void feed() {
        s.of("2", "Twenty bytes come behind those on the TAPE, of each number the highest first: how many there are;");
        HedgeRecord x = new HedgeRecord();
        // "topi" "c a;" "topi" "c b;" "topi", then "c c;" and blanks.
        s.due("the first twenty", x.feed(0x746f7069, 0x6320613b, 0x746f7069, 0x6320623b, 0x746f7069), 20);
        s.due("behind those", x.feed(0x6320633b, 0x20202020, 0x0a0a0a0a, 0x20202020, 0x20202020), 40);
        s.due("read", x.hedge(), 0);
        s.due("topics", x.about(3), 3);
        s.due("from 0 again", x.feed(0, 0, 0, 0, 0), 20);
        x.end(3);
        s.due("behind three", x.feed(-1, -1, -1, -1, -1), 23);
        HedgeRecord y = new HedgeRecord();
        for (int i = 0; i < 20; i++) {
            int[] n = {0x20202020, 0x20202020, 0x20202020, 0x20202020, 0x20202020};
            n[i / 4] ^= (0x20 ^ 0xff) << 24 - 8 * (i % 4);
            y.feed(n[0], n[1], n[2], n[3], n[4]);
            y.hedge();
            s.due("byte " + i + " of the twenty, the highest that can be", y.fault(1), i);
        }
    }

    private void feedBeyond() {
        s.of("2", "NONE, and nothing comes, if there would be more than 1,600.");
        HedgeRecord x = new HedgeRecord();
        for (int i = 1; i <= 80; i++) {
            s.due("feed " + i, x.feed(0x20202020, 0x20202020, 0x20202020, 0x20202020, 0x20202020), 20 * i);
        }
        s.due("1,620", x.feed(-1, -1, -1, -1, -1), -1);
        s.due("still 1,600", x.about(12), 1600);
        x.end(1581);
        s.due("1,601", x.feed(-1, -1, -1, -1, -1), -1);
        s.due("still 1,581", x.about(12), 1581);
        s.due("nothing came", x.hedge(), 0);
        Checks.tape(x, Checks.times(" ", 1580).getBytes());
        s.due("just 1,600", x.feed(0x20202020, 0x20202020, 0x20202020, 0x20202020, 0x2020203f), 1600);
        x.hedge();
        s.due("the last of them", x.fault(1), 1599);
        new Twins(s, y -> {
            Twins.rich(y);
            y.end(0);
            Checks.tape(y, Checks.times(" ", 1599).getBytes());
        }).idle("feed of 19 bytes too many", y -> y.feed(-1, -1, -1, -1, -1), -1);
    }

    private void end() {
        s.of("3", "The TAPE has its first n bytes: n;");
        HedgeRecord x = new HedgeRecord();
        s.due("0 of 0", x.end(0), 0);
        Checks.tape(x, "topic a;topic b;?".getBytes());
        s.due("17 of 17", x.end(17), 17);
        s.due("16 of 17", x.end(16), 16);
        s.due("so many", x.about(12), 16);
        s.due("the first 16", x.hedge(), 0);
        s.due("topics", x.about(3), 2);
        Checks.tape(x, "topic a;topic b;?".getBytes());
        s.due("0 of 17", x.end(0), 0);
        s.due("none", x.hedge(), 0);
        s.due("no topics", x.about(3), 0);
        Checks.tape(x, Checks.times(" ", 1600).getBytes());
        s.due("1,600 of 1,600", x.end(1600), 1600);
    }

    private void endRefused() {
        s.of("3", "NONE, doing nothing, if it has not so many, or n is below 0.");
        Twins twins = new Twins(s, Twins::rich);
        int[] wrong = {-1, -25, 26, 1600, 1601, Integer.MIN_VALUE, Integer.MAX_VALUE};
        for (int n : wrong) {
            twins.idle("end " + n + " of 25", x -> x.end(n), -1);
        }
        twins.idle("end 25 of 25", x -> x.end(25), 25);
        HedgeRecord x = new HedgeRecord();
        s.due("1 of none", x.end(1), -1);
        x.feed(0, 0, 0, 0, 0);
        x.end(7);
        s.due("what was cut off is not there", x.end(8), -1);
        Checks.tape(x, "".getBytes());
        x.hedge();
        s.due("what was read is not there", x.end(1), -1);
    }

    private void hedge() {
        s.of("4", "The TAPE (empty then) is the HEDGE (all as told, year 0, no ACTS are kept, RINGS are none, nothing lies there, "
            + "BOXES are empty then; the TIME stays)");
        String text = "stakes 3;plant q life 4;topic u;bill z of q at 2 says u 7;draw 8;";
        HedgeRecord x = new HedgeRecord();
        Twins.rich(x);
        s.due("the time that was", x.about(11), 5);
        x.end(0);
        Checks.read(x, text);
        s.due("tape", x.about(12), 0);
        s.due("year", x.about(5), 0);
        s.due("seed", x.about(6), 8);
        s.dueRow("acts", new int[] {x.about(8), x.about(9)}, 0, 0);
        s.due("undo", x.undo(), false);
        s.due("redo", x.redo(), false);
        s.due("rings", x.about(10), 0);
        s.due("untell", x.untell(0), false);
        s.dueRow("lying", new int[] {x.about(14), x.lies(0)}, 0, -2);
        s.dueRow("boxes", new int[] {x.back(0), x.back(1), x.back(2)}, -1, -1, -1);
        s.due("the time stays", x.about(11), 5);
        s.due("nothing but the time is left", x.later(0), 5);
        HedgeRecord y = new HedgeRecord();
        y.later(5);
        Checks.read(y, text);
        s.alike("as of a new object", Twins.everything(x), Twins.everything(y));
        HedgeRecord z = s.taken("plant p life 3;bill a of p at 0;");
        z.year();
        Checks.read(z, "plant p life 3;bill a of p at 0;");
        s.dueRow("the same text again: life, age, year, seed", new int[] {z.bill(0, 0), z.bill(0, 1), z.about(5), z.about(6)},
            3, 0, 0, 0);
    }

    private void hedgeCounts() {
        s.of("4", ": how many BILLS;");
        s.due("0 of an empty tape", new HedgeRecord().hedge(), 0);
        for (int n = 0; n <= 8; n++) {
            s.due("of " + n, Checks.read(new HedgeRecord(), bills(n)), n);
        }
    }

    private void hedgeFault() {
        s.of("4", "NONE: a FAULT (all stays).");
        for (String text : new String[] {"?", "stakes 2;plant z life 1 hardy;topic z;party z;wants z z 1 by 1;"
            + "bill z of z at 0 says z 1;grow 9;frost 100 of 99;draw 1;?",
            "stakes 13", "topic t;topic t"}) {
            HedgeRecord x = new HedgeRecord();
            HedgeRecord y = new HedgeRecord();
            Twins.rich(x);
            Twins.rich(y);
            x.end(0);
            y.end(0);
            s.due("hedge of " + text, Checks.read(x, text), -1);
            // The tape is empty then, and fault() speaks of this text: all else must be as it was.
            s.due("tape", x.about(12), 0);
            s.alike("behind " + text, Twins.everythingButFault(x), Twins.everythingButFault(y));
            HedgeRecord z = new HedgeRecord();
            Twins.rich(z);
            z.end(0);
            Checks.read(z, text);
            HedgeRecord w = new HedgeRecord();
            w.later(5);
            String next = "plant p life 7;topic t;party g;bill a of p at 7 says t 2;";
            Checks.read(z, next);
            Checks.read(w, next);
            s.alike("and the next text is read as by a new object", Twins.everything(z), Twins.everything(w));
        }
    }

    private void fault() {
        s.of("5", "Of the latest hedge() what 0: its FAULT (0), 1: its place (NONE).");
        HedgeRecord x = new HedgeRecord();
        s.dueRow("ahead of the first", new int[] {x.fault(0), x.fault(1)}, 0, -1);
        Checks.read(x, "?");
        s.dueRow("no token", new int[] {x.fault(0), x.fault(1)}, 1, 0);
        Checks.read(x, "topic t;topic t;");
        s.dueRow("the latest", new int[] {x.fault(0), x.fault(1)}, 3, 14);
        Checks.tape(x, "?".getBytes());
        s.dueRow("what is on the tape does not count yet", new int[] {x.fault(0), x.fault(1)}, 3, 14);
        x.year();
        x.end(0);
        x.hedge();
        s.dueRow("none", new int[] {x.fault(0), x.fault(1)}, 0, -1);
        Checks.read(x, Checks.times(" ", 1600));
        s.dueRow("none of 1,600", new int[] {x.fault(0), x.fault(1)}, 0, -1);
        Checks.read(x, Checks.times(" ", 1595) + "topic");
        s.dueRow("the farthest place", new int[] {x.fault(0), x.fault(1)}, 2, 1600);
    }

    private void faultOther() {
        s.of("5", "NONE for another what.");
        HedgeRecord x = new HedgeRecord();
        Checks.read(x, "stakes 1;");
        int[] wrong = {-1, 2, 3, Integer.MIN_VALUE, Integer.MAX_VALUE};
        for (int what : wrong) {
            s.due("fault " + what, x.fault(what), -1);
        }
        s.dueRow("it stays", new int[] {x.fault(0), x.fault(1)}, 4, 7);
        new Twins(s, Twins::rich).idle("fault 2", y -> y.fault(2), -1);
    }
}
