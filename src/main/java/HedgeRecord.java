/**
 * A hedge that keeps the record: bills laid at its stakes are law as long as they live.
 * Every row is made with the object, none by a call, so that long runs stay small.
 */
public final class HedgeRecord {
    public static final int NONE = -1;

    private static final int NO_SUCH_BILL = -100;
    private static final int NO_SUCH_TOPIC = -1000;
    private static final int NO_SUCH_PARTY = 1;
    private static final int NOTHING_LIES = -2;
    private static final int NOT_SURE = -2;

    private static final int TAPE_MOST = 1600;
    private static final int FEED_BYTES = 20;
    private static final int STAKES_MOST = 12;
    private static final int STAKES_LEAST = 2;
    private static final int STAKES_UNTOLD = 8;
    private static final int PLANTS_MOST = 4;
    private static final int TOPICS_MOST = 4;
    private static final int PARTIES_MOST = 3;
    private static final int TOLD_BILLS_MOST = 8;
    private static final int BILLS_MOST = 12;
    private static final int LIFE_MOST = 99;
    private static final int SAYS_MOST = 9;
    private static final int WEIGHT_MOST = 9;
    private static final int PERCENT_MOST = 100;
    private static final int DRAW_MOST = 999;
    private static final int YEARS_MOST = 999;
    private static final int AHEAD_MOST = 60;
    private static final int PLAN_MOST = 3;
    private static final int ACTS_MOST = 40;
    private static final int BOXES = 3;
    private static final int RINGS_MOST = 30;
    private static final int LATER_MOST = 1000;
    private static final int TIME_MOST = 100000;
    private static final int ORDERED_MOST = 5;

    private final byte[] tape;
    private int taped;
    private final Reader reader;
    private Hedge told;
    /** What the next text is read into, so that a fault leaves the hedge as it is. */
    private Hedge spare;
    private final Growth now;
    /** Years that are only tried out pass here. */
    private final Growth ahead;
    private final Acts acts;
    private final Images images;
    private final Rings rings;
    private final Orders known;
    private final Trimming trimming;
    private final Turns turns;
    private final int[] laws;
    private final int[] lying;
    private int lyingCount;

    public HedgeRecord() {
        tape = new byte[TAPE_MOST];
        reader = new Reader(tape);
        told = new Hedge();
        spare = new Hedge();
        now = new Growth();
        ahead = new Growth();
        acts = new Acts();
        images = new Images();
        rings = new Rings();
        known = new Orders();
        trimming = new Trimming();
        turns = new Turns();
        laws = new int[TOPICS_MOST];
        lying = new int[PLAN_MOST];
        now.begin(told);
        acts.restart(now);
    }

    public int feed(int a, int b, int c, int d, int e) {
        if (taped + FEED_BYTES > TAPE_MOST) {
            return NONE;
        }
        putBytes(a);
        putBytes(b);
        putBytes(c);
        putBytes(d);
        putBytes(e);
        return taped;
    }

    private void putBytes(int number) {
        for (int shift = 24; shift >= 0; shift -= 8) {
            if (taped < tape.length) {
                tape[taped] = (byte) (number >> shift);
                taped++;
            }
        }
    }

    public int end(int n) {
        if (n < 0 || n > taped) {
            return NONE;
        }
        taped = n;
        return n;
    }

    public int hedge() {
        boolean isRead = reader.readAll(taped, spare);
        taped = 0;
        if (!isRead) {
            return NONE;
        }
        Hedge old = told;
        told = spare;
        spare = old;
        now.begin(told);
        acts.restart(now);
        images.clear();
        rings.clear();
        lyingCount = 0;
        return now.count;
    }

    public int fault(int what) {
        switch (what) {
            case 0:
                return reader.fault;
            case 1:
                return reader.place;
            default:
                return NONE;
        }
    }

    public int bill(int bill, int what) {
        if (!isBill(bill)) {
            return NO_SUCH_BILL;
        }
        Bills bills = told.bills;
        switch (what) {
            case 0:
                return now.life[bill];
            case 1:
                return now.age[bill];
            case 2:
                return bills.stake[bill];
            case 3:
                return bills.plant[bill];
            case 4:
                return bills.topic[bill];
            case 5:
                return bills.says[bill];
            case 6:
                return bills.amends[bill];
            case 7:
                return bills.repeals[bill];
            case 8:
                return standingNow() >> bill & 1;
            case 9:
                return bills.repealedBy(now.livingBits()) >> bill & 1;
            default:
                return NO_SUCH_BILL;
        }
    }

    public int stake(int stake, int what) {
        if (!isStake(stake) || what < 0 || what > 1) {
            return NONE;
        }
        return told.bills.onStake(stake, what == 0 ? now.livingBits() : standingNow());
    }

    public int law(int topic) {
        return isTopic(topic) ? told.bills.lawOf(topic, standingNow()) : NO_SUCH_TOPIC;
    }

    public int stands() {
        return standingNow();
    }

    public int falls(int bill) {
        if (!isBill(bill)) {
            return NONE;
        }
        int left = told.bills.standing(now.livingBits() & ~(1 << bill));
        return standingNow() & ~left;
    }

    public int lay(int stake, int plant, int topic, int says, int amends) {
        if (!isTopic(topic) || !isSaying(says) || (amends != NONE && !isBill(amends))) {
            return NONE;
        }
        return layBill(stake, plant, topic, says, amends, NONE);
    }

    public int repeal(int stake, int plant, int bill) {
        return isBill(bill) ? layBill(stake, plant, NONE, 0, NONE, bill) : NONE;
    }

    private int layBill(int stake, int plant, int topic, int says, int amends, int repeals) {
        int number = now.count;
        if (number >= BILLS_MOST || !isStake(stake) || !isPlant(plant)) {
            return NONE;
        }
        told.bills.put(number, stake, plant, topic, says, amends, repeals);
        told.bills.sortForReading();
        now.addBill(told.plantLife[plant]);
        acts.keep(now);
        return number;
    }

    public int pull(int bill) {
        if (!isBill(bill) || now.life[bill] <= 0) {
            return NONE;
        }
        int was = now.life[bill];
        now.life[bill] = 0;
        acts.keep(now);
        return was;
    }

    public int trim(int stake, int n) {
        if (!isStake(stake) || n < 1 || n > LIFE_MOST) {
            return NONE;
        }
        int before = now.livingBits();
        if (told.bills.onStake(stake, before) == 0) {
            return NONE;
        }
        now.cut(told.bills, stake, n);
        acts.keep(now);
        return Integer.bitCount(before & ~now.livingBits());
    }

    public int year() {
        if (now.year >= YEARS_MOST) {
            return NONE;
        }
        int before = now.livingBits();
        now.passYear(told);
        acts.keep(now);
        return Integer.bitCount(before & ~now.livingBits());
    }

    public boolean undo() {
        return acts.stepBack(now);
    }

    public boolean redo() {
        return acts.stepOn(now);
    }

    public int will(int topic, int n) {
        if (!isTopic(topic) || !isAhead(n)) {
            return NO_SUCH_TOPIC;
        }
        lookAhead(n);
        return told.bills.lawOf(topic, told.bills.standing(ahead.livingBits()));
    }

    public int lapse(int topic) {
        if (!isTopic(topic)) {
            return NONE;
        }
        Bills bills = told.bills;
        int first = bills.lawOf(topic, standingNow());
        ahead.takeFrom(now);
        for (int years = 1; years <= AHEAD_MOST; years++) {
            ahead.passYear(told);
            if (bills.lawOf(topic, bills.standing(ahead.livingBits())) != first) {
                return years;
            }
        }
        return NONE;
    }

    public int dies(int bill) {
        if (!isBill(bill)) {
            return NONE;
        }
        ahead.takeFrom(now);
        for (int years = 0; years <= AHEAD_MOST; years++) {
            if (ahead.life[bill] <= 0) {
                return years;
            }
            ahead.passYear(told);
        }
        return NONE;
    }

    public int living(int n) {
        if (!isAhead(n)) {
            return NONE;
        }
        lookAhead(n);
        return ahead.livingBits();
    }

    private void lookAhead(int years) {
        ahead.takeFrom(now);
        for (int i = 0; i < years && i < AHEAD_MOST; i++) {
            ahead.passYear(told);
        }
    }

    public int clashes() {
        return told.bills.clashing(standingNow());
    }

    public int weed(int what) {
        if (what < 0 || what > 1) {
            return NONE;
        }
        int weeds = fewestWeeds();
        return what == 0 ? Integer.bitCount(weeds) : weeds;
    }

    /** By size first and upward within a size, so that the first set found is the one asked for. */
    private int fewestWeeds() {
        int living = now.livingBits();
        for (int size = 0; size <= BILLS_MOST; size++) {
            for (int set = 0; set <= living; set++) {
                if ((set & ~living) == 0 && Integer.bitCount(set) == size && isClear(living & ~set)) {
                    return set;
                }
            }
        }
        return living;
    }

    private boolean isClear(int living) {
        return told.bills.clashing(told.bills.standing(living)) == 0;
    }

    public int places(int plant, int topic, int says) {
        if (now.count >= BILLS_MOST || !isPlant(plant) || !isTopic(topic) || !isSaying(says)) {
            return NONE;
        }
        int standing = standingNow();
        int found = 0;
        for (int stake = 0; stake < told.stakes; stake++) {
            if (told.bills.lawWithNew(topic, standing, stake, says) == says) {
                found |= 1 << stake;
            }
        }
        return found;
    }

    public int gaps() {
        int free = (1 << told.stakes) - 1;
        int living = now.livingBits();
        for (int stake = 0; stake < told.stakes; stake++) {
            if (told.bills.onStake(stake, living) != 0) {
                free &= ~(1 << stake);
            }
        }
        return free;
    }

    public int widest() {
        int free = gaps();
        int most = 0;
        int run = 0;
        for (int stake = 0; stake < told.stakes; stake++) {
            run = (free >> stake & 1) == 0 ? 0 : run + 1;
            most = Math.max(most, run);
        }
        return most;
    }

    /** Filling the last stake of every stretch that is just too wide leaves as few as can be. */
    public int closes(int width) {
        if (width < 1 || width > STAKES_MOST) {
            return NONE;
        }
        int free = gaps();
        int filled = 0;
        int run = 0;
        for (int stake = 0; stake < told.stakes; stake++) {
            run = (free >> stake & 1) == 0 ? 0 : run + 1;
            if (run == width) {
                filled++;
                run = 0;
            }
        }
        return filled;
    }

    /** The stakes stand in a row, so one end is walked to and back, and the other one only to. */
    public int walk(int stake, int set) {
        if (!isStake(stake) || (set & ~((1 << told.stakes) - 1)) != 0) {
            return NONE;
        }
        int low = stake;
        int high = stake;
        for (int s = 0; s < told.stakes; s++) {
            if ((set >> s & 1) != 0) {
                low = Math.min(low, s);
                high = Math.max(high, s);
            }
        }
        return high - low + Math.min(stake - low, high - stake);
    }

    public int plan(int years, int by) {
        lyingCount = 0;
        if (years < 1 || years > PLAN_MOST || by < 1 || by > LIFE_MOST) {
            return NONE;
        }
        int most = trimming.best(told, now, years, by);
        for (int i = 0; i < years; i++) {
            layDown(trimming.stakeOf(i));
        }
        return most;
    }

    public int joy(int party) {
        return isParty(party) ? joyNow(party) : NO_SUCH_PARTY;
    }

    public int saddest() {
        int saddest = NONE;
        int least = 0;
        for (int party = 0; party < told.parties; party++) {
            int joy = joyNow(party);
            if (saddest == NONE || joy < least) {
                saddest = party;
                least = joy;
            }
        }
        return saddest;
    }

    private int joyNow(int party) {
        told.bills.readInto(laws, standingNow());
        return told.joyOf(party, laws);
    }

    public int game() {
        lyingCount = 0;
        int picks = turns.best(told, now.livingBits());
        int pulled = 0;
        for (int party = 0; party < told.parties; party++) {
            int bill = turns.pickOf(picks, party);
            layDown(bill);
            pulled += bill == NONE ? 0 : 1;
        }
        return pulled;
    }

    private void layDown(int number) {
        if (lyingCount < lying.length) {
            lying[lyingCount] = number;
            lyingCount++;
        }
    }

    public int lies(int i) {
        return i >= 0 && i < lyingCount && i < lying.length ? lying[i] : NOTHING_LIES;
    }

    public int ring(int bill, int other, boolean isAhead) {
        if (!isOrdered(bill) || !isOrdered(other) || bill == other) {
            return NONE;
        }
        return isAhead ? rings.tell(bill, other) : rings.tell(other, bill);
    }

    public boolean untell(int ring) {
        return rings.takeBack(ring);
    }

    public int later(int by) {
        if (by < 0 || by > LATER_MOST || rings.time + by > TIME_MOST) {
            return NONE;
        }
        rings.time += by;
        return rings.time;
    }

    public int orders(int k) {
        known.gather(rings, k, told.bills, now.count);
        return known.total;
    }

    public int sure(int bill, int k) {
        if (!isOrdered(bill)) {
            return NONE;
        }
        known.gather(rings, k, told.bills, now.count);
        return known.total == 0 ? NONE : known.surePlace(bill);
    }

    public int ask(int what, int k) {
        if (what < 0 || what > 1) {
            return NONE;
        }
        known.gather(rings, k, told.bills, now.count);
        int asked = known.total == 0 ? NONE : known.bestToAsk();
        return what == 0 || asked == NONE ? asked : known.mostLeft(asked);
    }

    public int image(int box) {
        if (box < 0 || box >= BOXES) {
            return NONE;
        }
        images.keep(box, told.bills, now);
        return now.year;
    }

    public int back(int box) {
        if (!images.has(box)) {
            return NONE;
        }
        images.bring(box, told.bills, now);
        acts.restart(now);
        return now.year;
    }

    public int about(int what) {
        switch (what) {
            case 0:
                return now.count;
            case 1:
                return told.stakes;
            case 2:
                return told.plants;
            case 3:
                return told.topics;
            case 4:
                return told.parties;
            case 5:
                return now.year;
            case 6:
                return now.seed;
            case 7:
                return now.allLife();
            case 8:
                return acts.done;
            case 9:
                return acts.undone;
            case 10:
                return rings.count;
            case 11:
                return rings.time;
            case 12:
                return taped;
            case 13:
                return told.grow.units;
            case 14:
                return lyingCount;
            default:
                return NONE;
        }
    }

    private int standingNow() {
        return told.bills.standing(now.livingBits());
    }

    private boolean isBill(int bill) {
        return bill >= 0 && bill < now.count && bill < BILLS_MOST;
    }

    private boolean isOrdered(int bill) {
        return isBill(bill) && bill < ORDERED_MOST;
    }

    private boolean isStake(int stake) {
        return stake >= 0 && stake < told.stakes;
    }

    private boolean isPlant(int plant) {
        return plant >= 0 && plant < told.plants && plant < PLANTS_MOST;
    }

    private boolean isTopic(int topic) {
        return topic >= 0 && topic < told.topics && topic < TOPICS_MOST;
    }

    private boolean isParty(int party) {
        return party >= 0 && party < told.parties && party < PARTIES_MOST;
    }

    private boolean isAhead(int years) {
        return years >= 0 && years <= AHEAD_MOST;
    }

    private static boolean isSaying(int says) {
        return says >= -SAYS_MOST && says <= SAYS_MOST;
    }

    /** What a text tells; only its bills change afterwards, when more are laid. */
    private static final class Hedge {
        int stakes;
        int plants;
        int topics;
        int parties;
        int toldBills;
        final int[] plantLife;
        int hardyBits;
        final int[] wanted;
        /** 0 where a party wants nothing of a topic. */
        final int[] weight;
        int frost;
        int frostLoss;
        int draw;
        final Formula grow;
        final Bills bills;

        Hedge() {
            plantLife = new int[PLANTS_MOST];
            wanted = new int[PARTIES_MOST * TOPICS_MOST];
            weight = new int[PARTIES_MOST * TOPICS_MOST];
            grow = new Formula();
            bills = new Bills();
            clear();
        }

        void clear() {
            stakes = STAKES_UNTOLD;
            plants = 0;
            topics = 0;
            parties = 0;
            toldBills = 0;
            hardyBits = 0;
            for (int i = 0; i < weight.length; i++) {
                weight[i] = 0;
            }
            frost = 0;
            frostLoss = 1;
            draw = 0;
            grow.clear();
        }

        int firstLifeOf(int bill) {
            if (bill < 0 || bill >= BILLS_MOST) {
                return 0;
            }
            int plant = bills.plant[bill];
            return plant >= 0 && plant < plantLife.length ? plantLife[plant] : 0;
        }

        int joyOf(int party, int[] laws) {
            int joy = 0;
            for (int topic = 0; topic < topics && topic < laws.length; topic++) {
                int i = party * TOPICS_MOST + topic;
                if (i >= 0 && i < weight.length && i < wanted.length) {
                    joy -= weight[i] * Math.abs(laws[topic] - wanted[i]);
                }
            }
            return joy;
        }
    }

    /** What was resolved with each bill; which of them live is handed in as bits. */
    private static final class Bills {
        static final int ROW = 6 * BILLS_MOST;

        final int[] stake;
        final int[] plant;
        final int[] topic;
        final int[] says;
        final int[] amends;
        final int[] repeals;
        /** Numbers in the order of reading; those not laid are among them, and never in a set. */
        final int[] order;

        Bills() {
            stake = new int[BILLS_MOST];
            plant = new int[BILLS_MOST];
            topic = new int[BILLS_MOST];
            says = new int[BILLS_MOST];
            amends = new int[BILLS_MOST];
            repeals = new int[BILLS_MOST];
            order = new int[BILLS_MOST];
        }

        void put(int bill, int atStake, int ofPlant, int ofTopic, int saying, int amending, int repealing) {
            if (bill >= 0 && bill < BILLS_MOST) {
                stake[bill] = atStake;
                plant[bill] = ofPlant;
                topic[bill] = ofTopic;
                says[bill] = saying;
                amends[bill] = amending;
                repeals[bill] = repealing;
            }
        }

        void sortForReading() {
            int sorted = 0;
            for (int s = 0; s < STAKES_MOST; s++) {
                for (int b = 0; b < BILLS_MOST; b++) {
                    if (stake[b] == s && sorted < order.length) {
                        order[sorted] = b;
                        sorted++;
                    }
                }
            }
        }

        void store(int[] rows, int at) {
            if (at >= 0 && at + ROW <= rows.length) {
                System.arraycopy(stake, 0, rows, at, BILLS_MOST);
                System.arraycopy(plant, 0, rows, at + BILLS_MOST, BILLS_MOST);
                System.arraycopy(topic, 0, rows, at + 2 * BILLS_MOST, BILLS_MOST);
                System.arraycopy(says, 0, rows, at + 3 * BILLS_MOST, BILLS_MOST);
                System.arraycopy(amends, 0, rows, at + 4 * BILLS_MOST, BILLS_MOST);
                System.arraycopy(repeals, 0, rows, at + 5 * BILLS_MOST, BILLS_MOST);
            }
        }

        void load(int[] rows, int at) {
            if (at >= 0 && at + ROW <= rows.length) {
                System.arraycopy(rows, at, stake, 0, BILLS_MOST);
                System.arraycopy(rows, at + BILLS_MOST, plant, 0, BILLS_MOST);
                System.arraycopy(rows, at + 2 * BILLS_MOST, topic, 0, BILLS_MOST);
                System.arraycopy(rows, at + 3 * BILLS_MOST, says, 0, BILLS_MOST);
                System.arraycopy(rows, at + 4 * BILLS_MOST, amends, 0, BILLS_MOST);
                System.arraycopy(rows, at + 5 * BILLS_MOST, repeals, 0, BILLS_MOST);
                sortForReading();
            }
        }

        int repealedBy(int living) {
            int repealed = 0;
            for (int b = 0; b < BILLS_MOST; b++) {
                if ((living >> b & 1) != 0 && repeals[b] >= 0) {
                    repealed |= 1 << repeals[b];
                }
            }
            return repealed;
        }

        /** A bill amends only an earlier one, so one pass upward is enough. */
        int standing(int living) {
            int free = living & ~repealedBy(living);
            int standing = 0;
            for (int b = 0; b < BILLS_MOST; b++) {
                if ((free >> b & 1) != 0 && (amends[b] < 0 || (standing >> amends[b] & 1) != 0)) {
                    standing |= 1 << b;
                }
            }
            return standing;
        }

        int onStake(int atStake, int set) {
            int found = 0;
            for (int b = 0; b < BILLS_MOST; b++) {
                if ((set >> b & 1) != 0 && stake[b] == atStake) {
                    found |= 1 << b;
                }
            }
            return found;
        }

        int othersNear(int bill, int living) {
            if (bill < 0 || bill >= BILLS_MOST) {
                return 0;
            }
            int near = 0;
            for (int b = 0; b < BILLS_MOST; b++) {
                if (b != bill && (living >> b & 1) != 0 && Math.abs(stake[b] - stake[bill]) <= 1) {
                    near++;
                }
            }
            return near;
        }

        void readInto(int[] laws, int standing) {
            for (int t = 0; t < laws.length; t++) {
                laws[t] = 0;
            }
            for (int i = 0; i < order.length; i++) {
                int b = order[i];
                if (b >= 0 && b < BILLS_MOST && (standing >> b & 1) != 0) {
                    int t = topic[b];
                    if (t >= 0 && t < laws.length) {
                        laws[t] = amends[b] < 0 ? says[b] : laws[t] + says[b];
                    }
                }
            }
        }

        int lawOf(int ofTopic, int standing) {
            return lawWithNew(ofTopic, standing, NONE, 0);
        }

        /** A new bill has the highest number, so it is read last at its stake; at none it changes nothing. */
        int lawWithNew(int ofTopic, int standing, int newStake, int newSays) {
            int law = 0;
            boolean isRead = newStake < 0;
            for (int i = 0; i < order.length; i++) {
                int b = order[i];
                if (b >= 0 && b < BILLS_MOST && (standing >> b & 1) != 0 && topic[b] == ofTopic) {
                    if (!isRead && stake[b] > newStake) {
                        law = newSays;
                        isRead = true;
                    }
                    law = amends[b] < 0 ? says[b] : law + says[b];
                }
            }
            return isRead ? law : newSays;
        }

        int clashing(int standing) {
            int twos = 0;
            for (int b = 0; b < BILLS_MOST; b++) {
                for (int c = b + 1; c < BILLS_MOST; c++) {
                    if ((standing >> b & standing >> c & 1) != 0 && isClash(b, c)) {
                        twos++;
                    }
                }
            }
            return twos;
        }

        private boolean isClash(int b, int c) {
            if (b < 0 || c < 0 || b >= BILLS_MOST || c >= BILLS_MOST) {
                return false;
            }
            return amends[b] < 0 && amends[c] < 0 && topic[b] >= 0 && topic[b] == topic[c] && says[b] != says[c];
        }
    }

    /** What changes with the years: how many bills there are, their lives and ages, the year, the seed. */
    private static final class Growth {
        static final int ROW = 2 * BILLS_MOST + 3;

        int count;
        int year;
        int seed;
        final int[] life;
        final int[] age;

        Growth() {
            life = new int[BILLS_MOST];
            age = new int[BILLS_MOST];
        }

        void begin(Hedge hedge) {
            count = hedge.toldBills;
            year = 0;
            seed = hedge.draw;
            for (int b = 0; b < BILLS_MOST; b++) {
                life[b] = b < count ? hedge.firstLifeOf(b) : 0;
                age[b] = 0;
            }
        }

        void takeFrom(Growth other) {
            count = other.count;
            year = other.year;
            seed = other.seed;
            System.arraycopy(other.life, 0, life, 0, BILLS_MOST);
            System.arraycopy(other.age, 0, age, 0, BILLS_MOST);
        }

        void store(int[] rows, int at) {
            if (at >= 0 && at + ROW <= rows.length) {
                rows[at] = count;
                rows[at + 1] = year;
                rows[at + 2] = seed;
                System.arraycopy(life, 0, rows, at + 3, BILLS_MOST);
                System.arraycopy(age, 0, rows, at + 3 + BILLS_MOST, BILLS_MOST);
            }
        }

        void load(int[] rows, int at) {
            if (at >= 0 && at + ROW <= rows.length) {
                count = rows[at];
                year = rows[at + 1];
                seed = rows[at + 2];
                System.arraycopy(rows, at + 3, life, 0, BILLS_MOST);
                System.arraycopy(rows, at + 3 + BILLS_MOST, age, 0, BILLS_MOST);
            }
        }

        void addBill(int firstLife) {
            if (count >= 0 && count < BILLS_MOST) {
                life[count] = firstLife;
                age[count] = 0;
                count++;
            }
        }

        int livingBits() {
            int living = 0;
            for (int b = 0; b < count && b < BILLS_MOST; b++) {
                if (life[b] > 0) {
                    living |= 1 << b;
                }
            }
            return living;
        }

        int allLife() {
            int all = 0;
            for (int b = 0; b < count && b < BILLS_MOST; b++) {
                all += life[b];
            }
            return all;
        }

        void cut(Bills bills, int atStake, int by) {
            for (int b = 0; b < count && b < BILLS_MOST; b++) {
                if (bills.stake[b] == atStake) {
                    life[b] = Math.max(0, life[b] - by);
                }
            }
        }

        void passYear(Hedge hedge) {
            growAll(hedge);
            seed = (seed * 137 + 71) % 1000;
            if (seed % 100 < hedge.frost) {
                freeze(hedge);
            }
            year++;
        }

        /** One that dies early in a year is no neighbour any more to those that come behind it. */
        private void growAll(Hedge hedge) {
            Bills bills = hedge.bills;
            int living = livingBits();
            for (int b = 0; b < count && b < BILLS_MOST; b++) {
                if (life[b] > 0) {
                    int near = bills.othersNear(b, living);
                    int more = hedge.grow.result(life[b], age[b], bills.stake[b], near, year);
                    life[b] = Math.max(0, Math.min(LIFE_MOST, life[b] + more));
                    age[b]++;
                    if (life[b] == 0) {
                        living &= ~(1 << b);
                    }
                }
            }
        }

        private void freeze(Hedge hedge) {
            for (int b = 0; b < count && b < BILLS_MOST; b++) {
                if ((hedge.hardyBits >> hedge.bills.plant[b] & 1) == 0) {
                    life[b] = Math.max(0, life[b] - hedge.frostLoss);
                }
            }
        }
    }

    /** How much a bill grows, with what is joined told ahead of how it is joined. */
    private static final class Formula {
        static final int UNITS_MOST = 30;
        /** 30 units joined by 29 signs, each within at most 7 nots. */
        static final int CODE_MOST = 272;
        /** Numbers are codes from 0 on; what is given stands at place ~code of its row. */
        static final int LIFE = -1;
        static final int AGE = -2;
        static final int STAKE = -3;
        static final int NEAR = -4;
        static final int YEAR = -5;
        static final int NOT = -6;
        static final int OR = -7;
        static final int AND = -8;
        static final int LESS = -9;
        static final int MORE = -10;
        static final int SAME = -11;
        static final int PLUS = -12;
        static final int MINUS = -13;
        static final int TIMES = -14;
        static final int DIVIDED = -15;
        static final int REST = -16;

        int units;
        private int length;
        private final int[] code;
        private final int[] given;
        private final int[] stack;

        Formula() {
            code = new int[CODE_MOST];
            given = new int[5];
            stack = new int[UNITS_MOST + 2];
        }

        void clear() {
            units = 0;
            length = 0;
        }

        void emit(int one) {
            if (length < code.length) {
                code[length] = one;
                length++;
            }
        }

        int result(int life, int age, int stake, int near, int year) {
            given[~LIFE] = life;
            given[~AGE] = age;
            given[~STAKE] = stake;
            given[~NEAR] = near;
            given[~YEAR] = year;
            int top = 0;
            for (int i = 0; i < length && i < code.length; i++) {
                int one = code[i];
                if (one > NOT) {
                    if (top < stack.length) {
                        stack[top] = one >= 0 ? one : given[~one];
                        top++;
                    }
                } else if (one == NOT) {
                    if (top > 0) {
                        stack[top - 1] = stack[top - 1] == 0 ? 1 : 0;
                    }
                } else if (top > 1) {
                    top--;
                    stack[top - 1] = joined(one, stack[top - 1], stack[top]);
                }
            }
            return top > 0 ? stack[top - 1] : 0;
        }

        private static int joined(int how, int left, int right) {
            switch (how) {
                case OR:
                    return left != 0 || right != 0 ? 1 : 0;
                case AND:
                    return left != 0 && right != 0 ? 1 : 0;
                case LESS:
                    return left < right ? 1 : 0;
                case MORE:
                    return left > right ? 1 : 0;
                case SAME:
                    return left == right ? 1 : 0;
                case PLUS:
                    return left + right;
                case MINUS:
                    return left - right;
                case TIMES:
                    return left * right;
                case DIVIDED:
                    return right == 0 ? 0 : left / right;
                default:
                    return right == 0 ? 0 : left % right;
            }
        }
    }

    /** The states between acts, in a ring of rows: the present one is at done behind the first. */
    private static final class Acts {
        private static final int STATES = ACTS_MOST + 1;

        int done;
        int undone;
        private int first;
        private final int[] rows;

        Acts() {
            rows = new int[STATES * Growth.ROW];
        }

        void restart(Growth now) {
            first = 0;
            done = 0;
            undone = 0;
            now.store(rows, presentRow());
        }

        void keep(Growth now) {
            undone = 0;
            if (done < ACTS_MOST) {
                done++;
            } else {
                first = (first + 1) % STATES;
            }
            now.store(rows, presentRow());
        }

        boolean stepBack(Growth now) {
            if (done == 0) {
                return false;
            }
            done--;
            undone++;
            now.load(rows, presentRow());
            return true;
        }

        boolean stepOn(Growth now) {
            if (undone == 0) {
                return false;
            }
            undone--;
            done++;
            now.load(rows, presentRow());
            return true;
        }

        private int presentRow() {
            return (first + done) % STATES * Growth.ROW;
        }
    }

    /** Boxes keep the bills too, since others may be laid in their places later on. */
    private static final class Images {
        private static final int ROW = Bills.ROW + Growth.ROW;

        private int filled;
        private final int[] rows;

        Images() {
            rows = new int[BOXES * ROW];
        }

        void clear() {
            filled = 0;
        }

        boolean has(int box) {
            return box >= 0 && box < BOXES && (filled >> box & 1) != 0;
        }

        void keep(int box, Bills bills, Growth now) {
            bills.store(rows, box * ROW);
            now.store(rows, box * ROW + Bills.ROW);
            filled |= 1 << box;
        }

        void bring(int box, Bills bills, Growth now) {
            bills.load(rows, box * ROW);
            now.load(rows, box * ROW + Bills.ROW);
        }
    }

    /** What was told of the order of bills, and when. */
    private static final class Rings {
        int count;
        int time;
        final int[] earlier;
        final int[] behind;
        private final int[] toldAt;
        /** NONE: not untold. */
        private final int[] untoldAt;

        Rings() {
            earlier = new int[RINGS_MOST];
            behind = new int[RINGS_MOST];
            toldAt = new int[RINGS_MOST];
            untoldAt = new int[RINGS_MOST];
        }

        void clear() {
            count = 0;
        }

        int tell(int firstBill, int secondBill) {
            if (count < 0 || count >= RINGS_MOST) {
                return NONE;
            }
            earlier[count] = firstBill;
            behind[count] = secondBill;
            toldAt[count] = time;
            untoldAt[count] = NONE;
            count++;
            return count - 1;
        }

        boolean takeBack(int ring) {
            if (ring < 0 || ring >= count || ring >= RINGS_MOST || untoldAt[ring] != NONE) {
                return false;
            }
            untoldAt[ring] = time;
            return true;
        }

        boolean isKnown(int ring, int k) {
            if (ring < 0 || ring >= count || ring >= RINGS_MOST || toldAt[ring] > k) {
                return false;
            }
            return untoldAt[ring] == NONE || untoldAt[ring] > k;
        }
    }

    /** All orders of the first bills that fit, counted by bill and place. */
    private static final class Orders {
        int total;
        private int size;
        /** Of each bill the bits of those that were laid ahead of it. */
        private final int[] needs;
        private final int[] seats;
        private final int[] tally;

        Orders() {
            needs = new int[ORDERED_MOST];
            seats = new int[ORDERED_MOST];
            tally = new int[ORDERED_MOST * ORDERED_MOST];
        }

        void gather(Rings rings, int k, Bills bills, int count) {
            size = Math.min(count, ORDERED_MOST);
            total = 0;
            for (int i = 0; i < tally.length; i++) {
                tally[i] = 0;
            }
            for (int b = 0; b < size; b++) {
                needs[b] = bitOf(bills.amends[b]) | bitOf(bills.repeals[b]);
            }
            for (int r = 0; r < rings.count && r < RINGS_MOST; r++) {
                int ahead = rings.earlier[r];
                int behind = rings.behind[r];
                if (rings.isKnown(r, k) && isSeated(ahead) && isSeated(behind)) {
                    needs[behind] |= 1 << ahead;
                }
            }
            seatFrom(0, 0);
        }

        private static int bitOf(int bill) {
            return bill < 0 ? 0 : 1 << bill;
        }

        private boolean isSeated(int bill) {
            return bill >= 0 && bill < size && bill < ORDERED_MOST;
        }

        private void seatFrom(int seat, int seated) {
            if (seat >= size || seat >= ORDERED_MOST) {
                countSeats();
                return;
            }
            for (int b = 0; b < size; b++) {
                if ((seated >> b & 1) == 0 && (needs[b] & ~seated) == 0) {
                    seats[seat] = b;
                    seatFrom(seat + 1, seated | 1 << b);
                }
            }
        }

        private void countSeats() {
            total++;
            for (int seat = 0; seat < size; seat++) {
                int i = seats[seat] * ORDERED_MOST + seat;
                if (i >= 0 && i < tally.length) {
                    tally[i]++;
                }
            }
        }

        private int tallied(int bill, int seat) {
            int i = bill * ORDERED_MOST + seat;
            return i >= 0 && i < tally.length ? tally[i] : 0;
        }

        int surePlace(int bill) {
            for (int seat = 0; seat < size; seat++) {
                if (tallied(bill, seat) == total) {
                    return seat;
                }
            }
            return NOT_SURE;
        }

        int mostLeft(int bill) {
            int most = 0;
            for (int seat = 0; seat < size; seat++) {
                most = Math.max(most, tallied(bill, seat));
            }
            return most;
        }

        int bestToAsk() {
            int best = NONE;
            for (int b = 0; b < size; b++) {
                if (best == NONE || mostLeft(b) < mostLeft(best)) {
                    best = b;
                }
            }
            return best;
        }
    }

    /** Tries the trimmings of some years in the order of the choice, so that of like ones the first stays. */
    private static final class Trimming {
        private int years;
        private int by;
        private int mostStanding;
        private int leastTrims;
        private final int[] tried;
        private final int[] chosen;
        private final int[] rows;
        private final Growth work;

        Trimming() {
            tried = new int[PLAN_MOST];
            chosen = new int[PLAN_MOST];
            rows = new int[(PLAN_MOST + 1) * Growth.ROW];
            work = new Growth();
        }

        int best(Hedge hedge, Growth now, int ofYears, int trimmedBy) {
            years = ofYears;
            by = trimmedBy;
            mostStanding = NONE;
            leastTrims = 0;
            now.store(rows, 0);
            search(hedge, 0, 0);
            return mostStanding;
        }

        int stakeOf(int yearNumber) {
            return yearNumber >= 0 && yearNumber < chosen.length ? chosen[yearNumber] : NONE;
        }

        /** A stake where none lives is left out: trimming none does as much with fewer trims. */
        private void search(Hedge hedge, int depth, int trims) {
            work.load(rows, depth * Growth.ROW);
            int living = work.livingBits();
            if (depth < 0 || depth >= years || depth >= PLAN_MOST) {
                judge(Integer.bitCount(hedge.bills.standing(living)), trims);
                return;
            }
            for (int stake = NONE; stake < hedge.stakes; stake++) {
                int trimsThen = stake == NONE ? trims : trims + 1;
                boolean isIdle = stake != NONE && hedge.bills.onStake(stake, living) == 0;
                if (!isIdle && isBetter(Integer.bitCount(living), trimsThen)) {
                    work.load(rows, depth * Growth.ROW);
                    work.cut(hedge.bills, stake, by);
                    work.passYear(hedge);
                    work.store(rows, (depth + 1) * Growth.ROW);
                    tried[depth] = stake;
                    search(hedge, depth + 1, trimsThen);
                }
            }
        }

        /** None can stand that does not live, so this of the living rules out what can't win any more. */
        private boolean isBetter(int standing, int trims) {
            return standing > mostStanding || (standing == mostStanding && trims < leastTrims);
        }

        private void judge(int standing, int trims) {
            if (isBetter(standing, trims)) {
                mostStanding = standing;
                leastTrims = trims;
                System.arraycopy(tried, 0, chosen, 0, PLAN_MOST);
            }
        }
    }

    /** The game of repeal: what each party pulls up is kept in four bits of one number, 0 for none. */
    private static final class Turns {
        private static final int PICK_BITS = 4;
        private static final int PICK_MASK = 15;

        private final int[] laws;

        Turns() {
            laws = new int[TOPICS_MOST];
        }

        int best(Hedge hedge, int living) {
            return bestFrom(hedge, 0, living);
        }

        int pickOf(int picks, int party) {
            return (picks >> party * PICK_BITS & PICK_MASK) - 1;
        }

        /** None is tried first and then the bills upward: only more joy displaces what was found before. */
        private int bestFrom(Hedge hedge, int party, int living) {
            if (party < 0 || party >= hedge.parties || party >= PARTIES_MOST) {
                return 0;
            }
            int best = 0;
            int mostJoy = 0;
            for (int bill = NONE; bill < BILLS_MOST; bill++) {
                if (bill == NONE || (living >> bill & 1) != 0) {
                    int left = bill == NONE ? living : living & ~(1 << bill);
                    int rest = bestFrom(hedge, party + 1, left);
                    int joy = joyAfter(hedge, party, left, rest);
                    if (bill == NONE || joy > mostJoy) {
                        best = rest | (bill + 1) << party * PICK_BITS;
                        mostJoy = joy;
                    }
                }
            }
            return best;
        }

        private int joyAfter(Hedge hedge, int party, int living, int picks) {
            int left = living;
            for (int next = party + 1; next < PARTIES_MOST; next++) {
                int bill = pickOf(picks, next);
                if (bill != NONE) {
                    left &= ~(1 << bill);
                }
            }
            hedge.bills.readInto(laws, hedge.bills.standing(left));
            return hedge.joyOf(party, laws);
        }
    }

    /** Reads the tape from left to right, a token at a time, and stops at the first fault. */
    private static final class Reader {
        private static final int NO_TOKEN = 1;
        private static final int MISPLACED = 2;
        private static final int TOLD_ALREADY = 3;
        private static final int WRONG_NUMBER = 4;
        private static final int UNKNOWN = 5;

        private static final int AT_END = 0;
        private static final int WORD = 1;
        private static final int NUMBER = 2;
        private static final int SIGN = 3;
        private static final int BROKEN = 4;

        private static final int WORD_MOST = 8;
        private static final int DIGITS_MOST = 4;
        private static final int LETTER_BITS = 5;
        private static final String SIGNS = ";()<>=+-*/%";

        /** The words that are no names, in the order of the numbers below, each with a blank behind it. */
        private static final String RESERVED = "stakes plant topic bill party wants grow frost draw life hardy of at says amends repeals by or and not age stake near year ";
        private static final int STAKES = 0;
        private static final int PLANT = 1;
        private static final int TOPIC = 2;
        private static final int BILL = 3;
        private static final int PARTY = 4;
        private static final int WANTS = 5;
        private static final int GROW = 6;
        private static final int FROST = 7;
        private static final int DRAW = 8;
        private static final int LIFE = 9;
        private static final int HARDY = 10;
        private static final int OF = 11;
        private static final int AT = 12;
        private static final int SAYS = 13;
        private static final int AMENDS = 14;
        private static final int REPEALS = 15;
        private static final int BY = 16;
        private static final int OR = 17;
        private static final int AND = 18;
        private static final int NOT = 19;
        private static final int AGE = 20;
        private static final int STAKE = 21;
        private static final int NEAR = 22;
        private static final int YEAR = 23;
        private static final int RESERVED_MOST = 24;

        /** What binds more loosely is read further out. */
        private static final int OR_LEVEL = 0;
        private static final int AND_LEVEL = 1;
        private static final int ONE_LEVEL = 2;
        private static final int SUM_LEVEL = 3;
        private static final int TERM_LEVEL = 4;
        private static final int NOT_JOINED = 0;
        private static final int NO_UNIT = Formula.NOT;
        private static final int WITHIN_MOST = 6;

        /** Where the names of each sort begin in the row of names. */
        private static final int PLANT_NAMES = 0;
        private static final int TOPIC_NAMES = PLANT_NAMES + PLANTS_MOST;
        private static final int BILL_NAMES = TOPIC_NAMES + TOPICS_MOST;
        private static final int PARTY_NAMES = BILL_NAMES + TOLD_BILLS_MOST;
        private static final int NAMES_MOST = PARTY_NAMES + PARTIES_MOST;

        int fault;
        int place;
        private final byte[] text;
        private int length;
        private int at;
        private int behind;
        private int kind;
        /** A number's value, a sign's character, a reserved word's number or NONE for a name. */
        private int value;
        /** The letters of a word, so that two words are alike if these are. */
        private long letters;
        private int lines;
        private int toldOnce;
        private int taken;
        private final long[] names;
        private final long[] reserved;

        Reader(byte[] tape) {
            place = NONE;
            text = tape;
            names = new long[NAMES_MOST];
            reserved = new long[RESERVED_MOST];
            int word = 0;
            for (int i = 0; i < RESERVED.length() && word < RESERVED_MOST; i++) {
                if (RESERVED.charAt(i) == ' ') {
                    word++;
                } else {
                    reserved[word] = reserved[word] << LETTER_BITS | (RESERVED.charAt(i) - 'a' + 1);
                }
            }
        }

        boolean readAll(int ofLength, Hedge into) {
            fault = 0;
            place = NONE;
            length = Math.min(ofLength, text.length);
            behind = 0;
            toldOnce = 0;
            into.clear();
            step();
            for (lines = 0; lines <= TAPE_MOST && kind != AT_END; lines++) {
                if (!readLine(into) || !takeSign(';')) {
                    return false;
                }
            }
            into.bills.sortForReading();
            return true;
        }

        private boolean readLine(Hedge into) {
            switch (kind == WORD ? value : NONE) {
                case STAKES:
                    return readStakes(into);
                case PLANT:
                    return readPlant(into);
                case TOPIC:
                    return readTopic(into);
                case BILL:
                    return readBill(into);
                case PARTY:
                    return readParty(into);
                case WANTS:
                    return readWants(into);
                case GROW:
                    return beginOnce() && readLevel(into.grow, OR_LEVEL, 0);
                case FROST:
                    return readFrost(into);
                case DRAW:
                    return readDraw(into);
                default:
                    return refuseToken();
            }
        }

        private boolean readStakes(Hedge into) {
            if (lines > 0) {
                return refuseToken();
            }
            step();
            if (!takeNumber(STAKES_LEAST, STAKES_MOST)) {
                return false;
            }
            into.stakes = taken;
            return true;
        }

        private boolean readPlant(Hedge into) {
            int plant = into.plants;
            if (!beginSort(PLANT_NAMES, plant, PLANTS_MOST) || !takeWord(LIFE) || !takeNumber(1, LIFE_MOST)) {
                return false;
            }
            if (plant >= 0 && plant < into.plantLife.length) {
                into.plantLife[plant] = taken;
            }
            if (isWord(HARDY)) {
                into.hardyBits |= 1 << plant;
                step();
            }
            into.plants++;
            return true;
        }

        private boolean readTopic(Hedge into) {
            if (!beginSort(TOPIC_NAMES, into.topics, TOPICS_MOST)) {
                return false;
            }
            into.topics++;
            return true;
        }

        private boolean readParty(Hedge into) {
            if (!beginSort(PARTY_NAMES, into.parties, PARTIES_MOST)) {
                return false;
            }
            into.parties++;
            return true;
        }

        /** The bill counts only at its line's end: it can't amend or repeal itself. */
        private boolean readBill(Hedge into) {
            int bill = into.toldBills;
            if (!beginSort(BILL_NAMES, bill, TOLD_BILLS_MOST) || !takeWord(OF)
                || !takeKnown(PLANT_NAMES, into.plants)) {
                return false;
            }
            int plant = taken;
            if (!takeWord(AT) || !takeNumber(0, into.stakes - 1)) {
                return false;
            }
            int stake = taken;
            int topic = NONE;
            int says = 0;
            if (isWord(SAYS)) {
                step();
                if (!takeKnown(TOPIC_NAMES, into.topics)) {
                    return false;
                }
                topic = taken;
                if (!takeSaying()) {
                    return false;
                }
                says = taken;
            }
            if (!takeOther(AMENDS, bill)) {
                return false;
            }
            int amends = taken;
            if (!takeOther(REPEALS, bill)) {
                return false;
            }
            into.bills.put(bill, stake, plant, topic, says, amends, taken);
            into.toldBills++;
            return true;
        }

        /** What is amended or repealed, NONE if nothing is. */
        private boolean takeOther(int word, int toldBills) {
            taken = NONE;
            if (!isWord(word)) {
                return true;
            }
            step();
            return takeKnown(BILL_NAMES, toldBills);
        }

        private boolean readWants(Hedge into) {
            step();
            if (!takeKnown(PARTY_NAMES, into.parties)) {
                return false;
            }
            int party = taken;
            int topicPlace = at;
            if (!takeKnown(TOPIC_NAMES, into.topics)) {
                return false;
            }
            int i = party * TOPICS_MOST + taken;
            if (i < 0 || i >= into.weight.length || i >= into.wanted.length || into.weight[i] != 0) {
                return refuse(TOLD_ALREADY, topicPlace);
            }
            if (!takeSaying()) {
                return false;
            }
            into.wanted[i] = taken;
            if (!takeWord(BY) || !takeNumber(1, WEIGHT_MOST)) {
                return false;
            }
            into.weight[i] = taken;
            return true;
        }

        private boolean readFrost(Hedge into) {
            if (!beginOnce() || !takeNumber(0, PERCENT_MOST)) {
                return false;
            }
            into.frost = taken;
            if (!takeWord(OF) || !takeNumber(1, LIFE_MOST)) {
                return false;
            }
            into.frostLoss = taken;
            return true;
        }

        private boolean readDraw(Hedge into) {
            if (!beginOnce() || !takeNumber(0, DRAW_MOST)) {
                return false;
            }
            into.draw = taken;
            return true;
        }

        private boolean beginOnce() {
            int bit = 1 << value;
            if ((toldOnce & bit) != 0) {
                return refuseToken();
            }
            toldOnce |= bit;
            step();
            return true;
        }

        /** Takes a line's first word and the new name behind it. */
        private boolean beginSort(int sort, int count, int most) {
            if (count >= most) {
                return refuseToken();
            }
            step();
            if (!isName()) {
                return refuseToken();
            }
            if (findName(sort, count) != NONE) {
                return refuse(TOLD_ALREADY, at);
            }
            int i = sort + count;
            if (i >= 0 && i < names.length) {
                names[i] = letters;
            }
            step();
            return true;
        }

        /** A one holds a single relation at most, the others any number of parts. */
        private boolean readLevel(Formula formula, int level, int within) {
            if (level > TERM_LEVEL) {
                return readUnit(formula, within);
            }
            if (level == ONE_LEVEL && isWord(NOT)) {
                return readNot(formula, within);
            }
            if (!readLevel(formula, level + 1, within)) {
                return false;
            }
            int most = level == ONE_LEVEL ? 1 : Formula.UNITS_MOST;
            int how = joinedBy(level);
            for (int i = 0; i < most && how != NOT_JOINED; i++) {
                step();
                if (!readLevel(formula, level + 1, within)) {
                    return false;
                }
                formula.emit(how);
                how = joinedBy(level);
            }
            return true;
        }

        private boolean readNot(Formula formula, int within) {
            if (within > WITHIN_MOST) {
                return refuseToken();
            }
            step();
            if (!readLevel(formula, ONE_LEVEL, within + 1)) {
                return false;
            }
            formula.emit(Formula.NOT);
            return true;
        }

        /** A unit is counted at its first token, so one around others is counted ahead of them. */
        private boolean readUnit(Formula formula, int within) {
            boolean isGroup = isSign('(');
            int single = isGroup ? NO_UNIT : singleUnit();
            if (!isGroup && single == NO_UNIT) {
                return refuseToken();
            }
            if (formula.units >= Formula.UNITS_MOST || (isGroup && within > WITHIN_MOST)) {
                return refuseToken();
            }
            formula.units++;
            step();
            if (isGroup) {
                return readLevel(formula, OR_LEVEL, within + 1) && takeSign(')');
            }
            formula.emit(single);
            return true;
        }

        private int joinedBy(int level) {
            if (kind == WORD) {
                if (level == OR_LEVEL && value == OR) {
                    return Formula.OR;
                }
                return level == AND_LEVEL && value == AND ? Formula.AND : NOT_JOINED;
            }
            if (kind != SIGN) {
                return NOT_JOINED;
            }
            switch (value) {
                case '<':
                    return level == ONE_LEVEL ? Formula.LESS : NOT_JOINED;
                case '>':
                    return level == ONE_LEVEL ? Formula.MORE : NOT_JOINED;
                case '=':
                    return level == ONE_LEVEL ? Formula.SAME : NOT_JOINED;
                case '+':
                    return level == SUM_LEVEL ? Formula.PLUS : NOT_JOINED;
                case '-':
                    return level == SUM_LEVEL ? Formula.MINUS : NOT_JOINED;
                case '*':
                    return level == TERM_LEVEL ? Formula.TIMES : NOT_JOINED;
                case '/':
                    return level == TERM_LEVEL ? Formula.DIVIDED : NOT_JOINED;
                case '%':
                    return level == TERM_LEVEL ? Formula.REST : NOT_JOINED;
                default:
                    return NOT_JOINED;
            }
        }

        private int singleUnit() {
            if (kind == NUMBER) {
                return value;
            }
            switch (kind == WORD ? value : NONE) {
                case LIFE:
                    return Formula.LIFE;
                case AGE:
                    return Formula.AGE;
                case STAKE:
                    return Formula.STAKE;
                case NEAR:
                    return Formula.NEAR;
                case YEAR:
                    return Formula.YEAR;
                default:
                    return NO_UNIT;
            }
        }

        private boolean isWord(int word) {
            return kind == WORD && value == word;
        }

        private boolean isName() {
            return kind == WORD && value == NONE;
        }

        private boolean isSign(int sign) {
            return kind == SIGN && value == sign;
        }

        private boolean takeWord(int word) {
            if (!isWord(word)) {
                return refuseToken();
            }
            step();
            return true;
        }

        private boolean takeSign(int sign) {
            if (!isSign(sign)) {
                return refuseToken();
            }
            step();
            return true;
        }

        private boolean takeNumber(int least, int most) {
            if (kind != NUMBER) {
                return refuseToken();
            }
            if (value < least || value > most) {
                return refuse(WRONG_NUMBER, at);
            }
            taken = value;
            step();
            return true;
        }

        /** One that can't be is told at its sign, if it has one. */
        private boolean takeSaying() {
            int from = at;
            boolean isBelow = isSign('-');
            if (isBelow) {
                step();
            }
            if (kind != NUMBER) {
                return refuseToken();
            }
            if (value > SAYS_MOST) {
                return refuse(WRONG_NUMBER, from);
            }
            taken = isBelow ? -value : value;
            step();
            return true;
        }

        private boolean takeKnown(int sort, int count) {
            if (!isName()) {
                return refuseToken();
            }
            taken = findName(sort, count);
            if (taken == NONE) {
                return refuse(UNKNOWN, at);
            }
            step();
            return true;
        }

        private int findName(int sort, int count) {
            for (int n = 0; n < count; n++) {
                int i = sort + n;
                if (i >= 0 && i < names.length && names[i] == letters) {
                    return n;
                }
            }
            return NONE;
        }

        private boolean refuseToken() {
            return refuse(kind == BROKEN ? NO_TOKEN : MISPLACED, at);
        }

        private boolean refuse(int what, int where) {
            fault = what;
            place = where;
            return false;
        }

        /** Goes on to the next token; at the end it stays there. */
        private void step() {
            at = behind;
            while (at < length && (text[at] == ' ' || text[at] == '\n')) {
                at++;
            }
            behind = at;
            if (at >= length) {
                kind = AT_END;
            } else if (text[at] >= 'a' && text[at] <= 'z') {
                stepWord();
            } else if (text[at] >= '0' && text[at] <= '9') {
                stepNumber();
            } else {
                value = text[at] & 255;
                kind = SIGNS.indexOf((char) value) >= 0 ? SIGN : BROKEN;
                behind = at + 1;
            }
        }

        /** More letters than a word has make no token, wherever it would be cut. */
        private void stepWord() {
            letters = 0;
            while (behind < length && text[behind] >= 'a' && text[behind] <= 'z') {
                letters = letters << LETTER_BITS | (text[behind] - 'a' + 1);
                behind++;
            }
            kind = behind - at > WORD_MOST ? BROKEN : WORD;
            value = NONE;
            for (int word = 0; word < reserved.length; word++) {
                if (reserved[word] == letters) {
                    value = word;
                }
            }
        }

        private void stepNumber() {
            value = 0;
            while (behind < length && text[behind] >= '0' && text[behind] <= '9') {
                value = value * 10 + (text[behind] - '0');
                behind++;
            }
            boolean isGlued = behind < length && text[behind] >= 'a' && text[behind] <= 'z';
            kind = isGlued || behind - at > DIGITS_MOST ? BROKEN : NUMBER;
        }
    }
}
