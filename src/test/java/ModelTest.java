import java.nio.charset.StandardCharsets;
import java.util.Arrays;
import java.util.Random;

/** Holds the class against the model, over texts and runs of calls that are made by lot (always the same lots). */
public final class ModelTest {
    private final Checks checks = new Checks();
    private final Random random = new Random(20261118);
    private final RandomTexts texts = new RandomTexts(random);
    private HedgeRecord x;
    private Model m;
    private String trace;

    public static void main(String[] args) {
        ModelTest t = new ModelTest();
        for (int i = 0; i < 20000; i++) {
            t.compareText(i % 4 == 0 ? t.texts.good() : i % 4 == 1 ? t.texts.heap() : t.texts.flawed());
        }
        for (int i = 0; i < 1500; i++) {
            t.compareRun(120);
        }
        for (int i = 0; i < 60; i++) {
            t.compareRun(500);
        }
        t.checks.finish();
    }

    private int below(int n) {
        return random.nextInt(n);
    }

    private void renew() {
        x = new HedgeRecord();
        m = new Model();
        trace = "";
    }

    private void same(String call, int got, int want) {
        trace += "\n  " + call + " = " + want;
        if (got != want) {
            System.out.println("in the run" + trace);
        }
        checks.due(call, got, want);
    }

    private void tell(String text) {
        byte[] bytes = text.getBytes(StandardCharsets.ISO_8859_1);
        byte[] whole = Arrays.copyOf(bytes, (bytes.length + 19) / 20 * 20);
        for (int i = 0; i < whole.length; i += 20) {
            int[] n = new int[5];
            for (int j = 0; j < 20; j++) {
                n[j / 4] = n[j / 4] << 8 | whole[i + j] & 255;
            }
            same("feed", x.feed(n[0], n[1], n[2], n[3], n[4]), m.feed(n[0], n[1], n[2], n[3], n[4]));
        }
        same("end " + bytes.length, x.end(bytes.length), m.end(bytes.length));
        same("hedge '" + text + "'", x.hedge(), m.hedge());
        same("fault(0)", x.fault(0), m.fault(0));
        same("fault(1)", x.fault(1), m.fault(1));
    }

    private void compareText(String text) {
        renew();
        tell(text);
        for (int what = -1; what <= 15; what++) {
            same("about " + what, x.about(what), m.about(what));
        }
        same("living(3)", x.living(3), m.living(3));
    }

    private void compareRun(int calls) {
        renew();
        tell(texts.good());
        int kinds = 3 + below(40);
        for (int i = 0; i < calls; i++) {
            if (below(120) == 0) {
                tell(below(2) == 0 ? texts.good() : texts.flawed());
            }
            oneCall(below(3) == 0 ? below(kinds) : below(40));
        }
        for (int b = 0; b < 12; b++) {
            for (int what = 0; what < 10; what++) {
                same("bill " + b + " " + what, x.bill(b, what), m.bill(b, what));
            }
        }
        for (int what = 0; what < 15; what++) {
            same("about " + what, x.about(what), m.about(what));
        }
    }

    /** A number that mostly can be, if those from 0 to below n can. */
    private int some(int n) {
        return below(12) == 0 ? below(2) == 0 ? -1 : n : below(Math.max(n, 1));
    }

    private void oneCall(int kind) {
        int bill = some(m.about(0));
        int stake = some(m.about(1));
        int plant = some(m.about(2));
        int topic = some(m.about(3));
        int says = below(20) - 10;
        int k = m.about(11) + below(5) - 3;
        if (kind < 14) {
            actCall(kind, stake, plant, topic, says, bill);
        } else if (kind < 30) {
            lookCall(kind, stake, plant, topic, says, bill);
        } else {
            ringCall(kind, bill, k);
        }
    }

    private void actCall(int kind, int stake, int plant, int topic, int says, int bill) {
        int n = below(3) == 0 ? below(102) : 1 + below(5);
        switch (kind) {
            case 0:
            case 1:
                int amends = below(2) == 0 ? -1 : bill;
                same("lay", x.lay(stake, plant, topic, says, amends), m.lay(stake, plant, topic, says, amends));
                break;
            case 2:
                same("repeal", x.repeal(stake, plant, bill), m.repeal(stake, plant, bill));
                break;
            case 3:
                same("pull " + bill, x.pull(bill), m.pull(bill));
                break;
            case 4:
            case 5:
                same("trim " + stake + " " + n, x.trim(stake, n), m.trim(stake, n));
                break;
            case 6:
            case 7:
                same("year", x.year(), m.year());
                break;
            case 8:
            case 9:
            case 10:
                same("undo", x.undo() ? 1 : 0, m.undo() ? 1 : 0);
                break;
            case 11:
            case 12:
                same("redo", x.redo() ? 1 : 0, m.redo() ? 1 : 0);
                break;
            default:
                int box = some(3);
                if (below(3) == 0) {
                    same("back " + box, x.back(box), m.back(box));
                } else {
                    same("image " + box, x.image(box), m.image(box));
                }
        }
    }

    private void lookCall(int kind, int stake, int plant, int topic, int says, int bill) {
        int n = below(4) == 0 ? below(63) - 1 : below(6);
        switch (kind) {
            case 14:
                int living = some(2);
                same("stake " + stake + " " + living, x.stake(stake, living), m.stake(stake, living));
                break;
            case 15:
                same("law " + topic, x.law(topic), m.law(topic));
                same("stands", x.stands(), m.stands());
                break;
            case 16:
                same("falls " + bill, x.falls(bill), m.falls(bill));
                break;
            case 17:
                same("will " + topic + " " + n, x.will(topic, n), m.will(topic, n));
                break;
            case 18:
                same("lapse " + topic, x.lapse(topic), m.lapse(topic));
                break;
            case 19:
                same("dies " + bill, x.dies(bill), m.dies(bill));
                break;
            case 20:
                same("living " + n, x.living(n), m.living(n));
                break;
            case 21:
                same("clashes", x.clashes(), m.clashes());
                break;
            case 22:
                if (m.about(0) < 10 || below(10) == 0) {
                    int what = some(2);
                    same("weed " + what, x.weed(what), m.weed(what));
                }
                break;
            case 23:
                same("places " + plant + " " + topic + " " + says, x.places(plant, topic, says), m.places(plant, topic, says));
                break;
            case 24:
                same("gaps", x.gaps(), m.gaps());
                same("widest", x.widest(), m.widest());
                break;
            case 25:
                int width = below(14);
                same("closes " + width, x.closes(width), m.closes(width));
                break;
            case 26:
                int set = below(1 << 13) & below(1 << 13);
                same("walk " + stake + " " + set, x.walk(stake, set), m.walk(stake, set));
                break;
            case 27:
                planCall(below(3) == 0 ? below(5) : 1 + below(2), below(3) == 0 ? below(101) : 1 + below(9));
                break;
            case 28:
                int party = some(m.about(4));
                same("joy " + party, x.joy(party), m.joy(party));
                same("saddest", x.saddest(), m.saddest());
                break;
            default:
                same("game", x.game(), m.game());
                lyingCalls();
        }
    }

    private void planCall(int years, int by) {
        same("plan " + years + " " + by, x.plan(years, by), m.plan(years, by));
        lyingCalls();
    }

    private void lyingCalls() {
        for (int i = -1; i < 4; i++) {
            same("lies " + i, x.lies(i), m.lies(i));
        }
    }

    private void ringCall(int kind, int bill, int k) {
        switch (kind) {
            case 30:
            case 31:
            case 32:
                int other = some(5);
                boolean isAhead = below(2) == 0;
                same("ring " + bill + " " + other + " " + isAhead, x.ring(bill, other, isAhead), m.ring(bill, other, isAhead));
                break;
            case 33:
            case 34:
                int ring = some(m.about(10));
                same("untell " + ring, x.untell(ring) ? 1 : 0, m.untell(ring) ? 1 : 0);
                break;
            case 35:
                int by = below(6) == 0 ? 990 + below(15) : below(4) - 1;
                same("later " + by, x.later(by), m.later(by));
                break;
            case 36:
                same("orders " + k, x.orders(k), m.orders(k));
                break;
            case 37:
                same("sure " + bill + " " + k, x.sure(bill, k), m.sure(bill, k));
                break;
            case 38:
                int what = some(2);
                same("ask " + what + " " + k, x.ask(what, k), m.ask(what, k));
                break;
            default:
                int about = some(15);
                same("about " + about, x.about(about), m.about(about));
        }
    }
}
