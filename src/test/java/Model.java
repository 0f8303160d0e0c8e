import java.util.ArrayDeque;
import java.util.ArrayList;
import java.util.Arrays;
import java.util.Deque;
import java.util.HashMap;
import java.util.HashSet;
import java.util.LinkedHashMap;
import java.util.List;
import java.util.Map;
import java.util.Set;
import java.util.function.IntUnaryOperator;
import java.util.function.ToIntFunction;
import java.util.regex.Matcher;
import java.util.regex.Pattern;

/**
 * The document told a second time, by trying out everything and with no thought of speed or room,
 * so that the class can be held against it. Its methods bear the names of the document's face.
 */
final class Model {
    static final int NONE = -1;

    private static final Set<String> RESERVED = Set.of("stakes", "plant", "life", "hardy", "topic", "bill", "of", "at",
        "says", "amends", "repeals", "party", "wants", "by", "grow", "frost", "draw", "or", "and", "not", "age", "stake",
        "near", "year");

    /** A place in the text that is not as it must be. */
    static final class Fault extends RuntimeException {
        private static final long serialVersionUID = 1L;
        final int kind;
        final int place;

        Fault(int kind, int place) {
            this.kind = kind;
            this.place = place;
        }
    }

    record Plant(int life, boolean isHardy) {
    }

    record Want(int value, int weight) {
    }

    record Around(int life, int age, int stake, int near, int year) {
    }

    static final class Bill {
        int stake;
        int plant;
        int topic = NONE;
        int says;
        int amends = NONE;
        int repeals = NONE;
        int life;
        int age;

        Bill copy() {
            Bill b = new Bill();
            b.stake = stake;
            b.plant = plant;
            b.topic = topic;
            b.says = says;
            b.amends = amends;
            b.repeals = repeals;
            b.life = life;
            b.age = age;
            return b;
        }
    }

    static final class State {
        final List<Bill> bills = new ArrayList<>();
        int year;
        int seed;

        State copy() {
            State s = new State();
            for (Bill b : bills) {
                s.bills.add(b.copy());
            }
            s.year = year;
            s.seed = seed;
            return s;
        }
    }

    static final class Told {
        int stakes = 8;
        final Map<String, Plant> plants = new LinkedHashMap<>();
        final List<String> topics = new ArrayList<>();
        final List<String> billNames = new ArrayList<>();
        final List<String> parties = new ArrayList<>();
        final Map<String, Want> wants = new HashMap<>();
        ToIntFunction<Around> grow = a -> 0;
        int units;
        int frost;
        int loss = 1;
        int draw;
        final State first = new State();

        Plant plant(int i) {
            return new ArrayList<>(plants.values()).get(i);
        }
    }

    record Token(String text, int place) {
        boolean isWord() {
            return !text.isEmpty() && Character.isLetter(text.charAt(0));
        }

        boolean isName() {
            return isWord() && !RESERVED.contains(text);
        }

        boolean isNumber() {
            return !text.isEmpty() && Character.isDigit(text.charAt(0));
        }
    }

    /** A reader by regular expressions and exceptions. */
    static final class Parser {
        private static final Pattern WORD = Pattern.compile("[a-z]+");
        private static final Pattern NUMBER = Pattern.compile("[0-9]+[a-z]?");
        private final String text;
        private int from;
        private Token token;
        private final Told told = new Told();
        private final Set<String> once = new HashSet<>();

        Parser(String text) {
            this.text = text;
        }

        Told parse() {
            next();
            for (boolean isFirst = true; !token.text.isEmpty(); isFirst = false) {
                line(isFirst);
                sign(";");
            }
            return told;
        }

        private void next() {
            while (from < text.length() && (text.charAt(from) == ' ' || text.charAt(from) == '\n')) {
                from++;
            }
            if (from == text.length()) {
                token = new Token("", from);
                return;
            }
            String found = "";
            for (Pattern p : List.of(WORD, NUMBER)) {
                Matcher m = p.matcher(text).region(from, text.length());
                if (m.lookingAt()) {
                    found = m.group();
                }
            }
            if (found.isEmpty() && ";()<>=+-*/%".indexOf(text.charAt(from)) >= 0) {
                found = text.substring(from, from + 1);
            }
            if (!found.matches("[a-z]{1,8}|[0-9]{1,4}|[^a-z0-9]")) {
                // Told only when it is looked at: what stands before it may be wrong, too.
                token = new Token("?", from);
                return;
            }
            token = new Token(found, from);
            from += found.length();
        }

        private Fault bad() {
            return new Fault(token.text.equals("?") ? 1 : 2, token.place);
        }

        private void sign(String s) {
            if (!token.text.equals(s)) {
                throw bad();
            }
            next();
        }

        private boolean optional(String s) {
            if (!token.text.equals(s)) {
                return false;
            }
            next();
            return true;
        }

        private int number(int least, int most) {
            if (!token.isNumber()) {
                throw bad();
            }
            int n = Integer.parseInt(token.text);
            if (n < least || n > most) {
                throw new Fault(4, token.place);
            }
            next();
            return n;
        }

        private int value() {
            int place = token.place;
            int factor = optional("-") ? -1 : 1;
            if (!token.isNumber()) {
                throw bad();
            }
            int n = Integer.parseInt(token.text);
            if (n > 9) {
                throw new Fault(4, place);
            }
            next();
            return factor * n;
        }

        private String newName(java.util.Collection<String> known) {
            if (!token.isName()) {
                throw bad();
            }
            if (known.contains(token.text)) {
                throw new Fault(3, token.place);
            }
            String name = token.text;
            next();
            return name;
        }

        private int known(java.util.Collection<String> names) {
            if (!token.isName()) {
                throw bad();
            }
            int i = new ArrayList<>(names).indexOf(token.text);
            if (i < 0) {
                throw new Fault(5, token.place);
            }
            next();
            return i;
        }

        private void room(int used, int most) {
            if (used >= most) {
                throw new Fault(2, token.place);
            }
            next();
        }

        private void line(boolean isFirst) {
            switch (token.text) {
                case "stakes" -> {
                    room(isFirst ? 0 : 1, 1);
                    told.stakes = number(2, 12);
                }
                case "plant" -> {
                    room(told.plants.size(), 4);
                    String name = newName(told.plants.keySet());
                    sign("life");
                    int life = number(1, 99);
                    told.plants.put(name, new Plant(life, optional("hardy")));
                }
                case "topic" -> {
                    room(told.topics.size(), 4);
                    told.topics.add(newName(told.topics));
                }
                case "party" -> {
                    room(told.parties.size(), 3);
                    told.parties.add(newName(told.parties));
                }
                case "bill" -> bill();
                case "wants" -> {
                    next();
                    int party = known(told.parties);
                    int place = token.place;
                    int topic = known(told.topics);
                    String key = party + "/" + topic;
                    if (told.wants.containsKey(key)) {
                        throw new Fault(3, place);
                    }
                    int v = value();
                    sign("by");
                    told.wants.put(key, new Want(v, number(1, 9)));
                }
                case "grow" -> {
                    room(once.add("grow") ? 0 : 1, 1);
                    told.grow = either(0);
                }
                case "frost" -> {
                    room(once.add("frost") ? 0 : 1, 1);
                    told.frost = number(0, 100);
                    sign("of");
                    told.loss = number(1, 99);
                }
                case "draw" -> {
                    room(once.add("draw") ? 0 : 1, 1);
                    told.draw = number(0, 999);
                    told.first.seed = told.draw;
                }
                default -> throw bad();
            }
        }

        private void bill() {
            room(told.billNames.size(), 8);
            String name = newName(told.billNames);
            Bill b = new Bill();
            sign("of");
            b.plant = known(told.plants.keySet());
            b.life = told.plant(b.plant).life;
            sign("at");
            b.stake = number(0, told.stakes - 1);
            if (optional("says")) {
                b.topic = known(told.topics);
                b.says = value();
            }
            if (optional("amends")) {
                b.amends = known(told.billNames);
            }
            if (optional("repeals")) {
                b.repeals = known(told.billNames);
            }
            told.billNames.add(name);
            told.first.bills.add(b);
        }

        private static int bit(boolean b) {
            return b ? 1 : 0;
        }

        private ToIntFunction<Around> either(int within) {
            ToIntFunction<Around> left = both(within);
            while (optional("or")) {
                ToIntFunction<Around> a = left;
                ToIntFunction<Around> b = both(within);
                left = x -> bit(a.applyAsInt(x) != 0 | b.applyAsInt(x) != 0);
            }
            return left;
        }

        private ToIntFunction<Around> both(int within) {
            ToIntFunction<Around> left = one(within);
            while (optional("and")) {
                ToIntFunction<Around> a = left;
                ToIntFunction<Around> b = one(within);
                left = x -> bit(a.applyAsInt(x) != 0 & b.applyAsInt(x) != 0);
            }
            return left;
        }

        private ToIntFunction<Around> one(int within) {
            if (token.text.equals("not")) {
                room(within, 7);
                ToIntFunction<Around> a = one(within + 1);
                return x -> bit(a.applyAsInt(x) == 0);
            }
            ToIntFunction<Around> a = sum(within);
            if (optional("<")) {
                ToIntFunction<Around> b = sum(within);
                return x -> bit(a.applyAsInt(x) < b.applyAsInt(x));
            }
            if (optional(">")) {
                ToIntFunction<Around> b = sum(within);
                return x -> bit(a.applyAsInt(x) > b.applyAsInt(x));
            }
            if (optional("=")) {
                ToIntFunction<Around> b = sum(within);
                return x -> bit(a.applyAsInt(x) == b.applyAsInt(x));
            }
            return a;
        }

        private ToIntFunction<Around> sum(int within) {
            ToIntFunction<Around> left = term(within);
            while (token.text.equals("+") || token.text.equals("-")) {
                boolean isPlus = token.text.equals("+");
                next();
                ToIntFunction<Around> a = left;
                ToIntFunction<Around> b = term(within);
                left = isPlus ? x -> a.applyAsInt(x) + b.applyAsInt(x) : x -> a.applyAsInt(x) - b.applyAsInt(x);
            }
            return left;
        }

        private ToIntFunction<Around> term(int within) {
            ToIntFunction<Around> left = unit(within);
            while (!token.text.isEmpty() && "*/%".contains(token.text)) {
                char how = token.text.charAt(0);
                next();
                ToIntFunction<Around> a = left;
                ToIntFunction<Around> b = unit(within);
                left = x -> joined(how, a.applyAsInt(x), b.applyAsInt(x));
            }
            return left;
        }

        private static int joined(char how, int a, int b) {
            if (how == '*') {
                return (int) ((long) a * b);
            }
            if (b == 0) {
                return 0;
            }
            return how == '/' ? (int) ((long) a / b) : (int) ((long) a % b);
        }

        private ToIntFunction<Around> unit(int within) {
            Token t = token;
            boolean isUnit = t.isNumber() || Set.of("life", "age", "stake", "near", "year", "(").contains(t.text);
            if (!isUnit) {
                throw bad();
            }
            room(told.units, 30);
            told.units++;
            if (t.text.equals("(")) {
                if (within >= 7) {
                    throw new Fault(2, t.place);
                }
                ToIntFunction<Around> e = either(within + 1);
                sign(")");
                return e;
            }
            switch (t.text) {
                case "life":
                    return Around::life;
                case "age":
                    return Around::age;
                case "stake":
                    return Around::stake;
                case "near":
                    return Around::near;
                case "year":
                    return Around::year;
                default:
                    int n = Integer.parseInt(t.text);
                    return x -> n;
            }
        }
    }

    private record Ring(int ahead, int behind, int told, int[] untold) {
    }

    private StringBuilder tape = new StringBuilder();
    private Told told = new Told();
    private State now = new State();
    private final Deque<State> before = new ArrayDeque<>();
    private final Deque<State> undone = new ArrayDeque<>();
    private final State[] boxes = new State[3];
    private final List<Ring> rings = new ArrayList<>();
    private final List<Integer> lying = new ArrayList<>();
    private int time;
    private int fault;
    private int place = NONE;

    int feed(int a, int b, int c, int d, int e) {
        if (tape.length() + 20 > 1600) {
            return NONE;
        }
        for (int n : new int[] {a, b, c, d, e}) {
            tape.append((char) (n >>> 24)).append((char) (n >>> 16 & 255)).append((char) (n >>> 8 & 255)).append((char) (n & 255));
        }
        return tape.length();
    }

    int end(int n) {
        if (n < 0 || n > tape.length()) {
            return NONE;
        }
        tape.setLength(n);
        return n;
    }

    int hedge() {
        String text = tape.toString();
        tape = new StringBuilder();
        fault = 0;
        place = NONE;
        try {
            told = new Parser(text).parse();
        } catch (Fault f) {
            fault = f.kind;
            place = f.place;
            return NONE;
        }
        now = told.first.copy();
        before.clear();
        undone.clear();
        Arrays.fill(boxes, null);
        rings.clear();
        lying.clear();
        return now.bills.size();
    }

    int fault(int what) {
        return what == 0 ? fault : what == 1 ? place : NONE;
    }

    private static boolean isIn(int i, int size) {
        return i >= 0 && i < size;
    }

    private static boolean isRepealed(State s, int bill) {
        return s.bills.stream().anyMatch(b -> b.life > 0 && b.repeals == bill);
    }

    private static boolean isStanding(State s, int bill) {
        Bill b = s.bills.get(bill);
        return b.life > 0 && !isRepealed(s, bill) && (b.amends == NONE || isStanding(s, b.amends));
    }

    private static int bits(State s, IntUnaryOperator isSo) {
        int set = 0;
        for (int i = 0; i < s.bills.size(); i++) {
            set |= isSo.applyAsInt(i) << i;
        }
        return set;
    }

    private static int standing(State s) {
        return bits(s, i -> isStanding(s, i) ? 1 : 0);
    }

    private static int alive(State s) {
        return bits(s, i -> s.bills.get(i).life > 0 ? 1 : 0);
    }

    private int lawOf(State s, int topic) {
        int law = 0;
        for (int stake = 0; stake < told.stakes; stake++) {
            for (int i = 0; i < s.bills.size(); i++) {
                Bill b = s.bills.get(i);
                if (b.stake == stake && b.topic == topic && isStanding(s, i)) {
                    law = (b.amends == NONE ? 0 : law) + b.says;
                }
            }
        }
        return law;
    }

    int bill(int bill, int what) {
        if (!isIn(bill, now.bills.size()) || !isIn(what, 10)) {
            return -100;
        }
        Bill b = now.bills.get(bill);
        return new int[] {b.life, b.age, b.stake, b.plant, b.topic, b.says, b.amends, b.repeals,
            isStanding(now, bill) ? 1 : 0, isRepealed(now, bill) ? 1 : 0}[what];
    }

    int stake(int stake, int what) {
        if (!isIn(stake, told.stakes) || !isIn(what, 2)) {
            return NONE;
        }
        return (what == 0 ? alive(now) : standing(now)) & bits(now, i -> now.bills.get(i).stake == stake ? 1 : 0);
    }

    int law(int topic) {
        return isIn(topic, told.topics.size()) ? lawOf(now, topic) : -1000;
    }

    int stands() {
        return standing(now);
    }

    int falls(int bill) {
        if (!isIn(bill, now.bills.size())) {
            return NONE;
        }
        return standing(now) & ~standing(pulled(now, 1 << bill));
    }

    private static State pulled(State s, int set) {
        State t = s.copy();
        for (int i = 0; i < t.bills.size(); i++) {
            if ((set >> i & 1) != 0) {
                t.bills.get(i).life = 0;
            }
        }
        return t;
    }

    private void act() {
        before.addLast(now.copy());
        if (before.size() > 40) {
            before.removeFirst();
        }
        undone.clear();
    }

    int lay(int stake, int plant, int topic, int says, int amends) {
        if (!isIn(topic, told.topics.size()) || says < -9 || says > 9
            || amends != NONE && !isIn(amends, now.bills.size())) {
            return NONE;
        }
        return lays(stake, plant, topic, says, amends, NONE);
    }

    int repeal(int stake, int plant, int bill) {
        return isIn(bill, now.bills.size()) ? lays(stake, plant, NONE, 0, NONE, bill) : NONE;
    }

    private int lays(int stake, int plant, int topic, int says, int amends, int repeals) {
        if (now.bills.size() >= 12 || !isIn(stake, told.stakes) || !isIn(plant, told.plants.size())) {
            return NONE;
        }
        act();
        Bill b = new Bill();
        b.stake = stake;
        b.plant = plant;
        b.topic = topic;
        b.says = says;
        b.amends = amends;
        b.repeals = repeals;
        b.life = told.plant(plant).life;
        now.bills.add(b);
        return now.bills.size() - 1;
    }

    int pull(int bill) {
        if (!isIn(bill, now.bills.size()) || now.bills.get(bill).life == 0) {
            return NONE;
        }
        act();
        int was = now.bills.get(bill).life;
        now.bills.get(bill).life = 0;
        return was;
    }

    int trim(int stake, int n) {
        if (!isIn(stake, told.stakes) || n < 1 || n > 99 || stake(stake, 0) == 0) {
            return NONE;
        }
        act();
        return trims(now, stake, n);
    }

    private static int trims(State s, int stake, int n) {
        int died = 0;
        for (Bill b : s.bills) {
            if (b.stake == stake && b.life > 0) {
                b.life = b.life > n ? b.life - n : 0;
                died += b.life == 0 ? 1 : 0;
            }
        }
        return died;
    }

    int year() {
        if (now.year >= 999) {
            return NONE;
        }
        act();
        return passes(now);
    }

    private int passes(State s) {
        int were = Integer.bitCount(alive(s));
        for (Bill b : s.bills) {
            if (b.life > 0) {
                int near = 0;
                for (Bill c : s.bills) {
                    if (c != b && c.life > 0 && Math.abs(c.stake - b.stake) < 2) {
                        near++;
                    }
                }
                int sum = b.life + told.grow.applyAsInt(new Around(b.life, b.age, b.stake, near, s.year));
                b.life = sum < 0 ? 0 : sum > 99 ? 99 : sum;
                b.age++;
            }
        }
        s.seed = (137 * s.seed + 71) % 1000;
        if (s.seed % 100 < told.frost) {
            for (Bill b : s.bills) {
                if (!told.plant(b.plant).isHardy) {
                    b.life = Math.max(b.life - told.loss, 0);
                }
            }
        }
        s.year++;
        return were - Integer.bitCount(alive(s));
    }

    boolean undo() {
        if (before.isEmpty()) {
            return false;
        }
        undone.addLast(now);
        now = before.removeLast();
        return true;
    }

    boolean redo() {
        if (undone.isEmpty()) {
            return false;
        }
        before.addLast(now);
        now = undone.removeLast();
        return true;
    }

    private State behind(int n) {
        State s = now.copy();
        for (int i = 0; i < n; i++) {
            passes(s);
        }
        return s;
    }

    int will(int topic, int n) {
        return isIn(topic, told.topics.size()) && isIn(n, 61) ? lawOf(behind(n), topic) : -1000;
    }

    int lapse(int topic) {
        for (int n = 1; n <= 60 && isIn(topic, told.topics.size()); n++) {
            if (will(topic, n) != law(topic)) {
                return n;
            }
        }
        return NONE;
    }

    int dies(int bill) {
        for (int n = 0; n <= 60 && isIn(bill, now.bills.size()); n++) {
            if ((living(n) >> bill & 1) == 0) {
                return n;
            }
        }
        return NONE;
    }

    int living(int n) {
        return isIn(n, 61) ? alive(behind(n)) : NONE;
    }

    private static int clashesOf(State s) {
        int twos = 0;
        for (int i = 0; i < s.bills.size(); i++) {
            for (int j = 0; j < i; j++) {
                Bill a = s.bills.get(i);
                Bill b = s.bills.get(j);
                if (isStanding(s, i) && isStanding(s, j) && a.amends == NONE && b.amends == NONE && a.topic != NONE
                    && a.topic == b.topic && a.says != b.says) {
                    twos++;
                }
            }
        }
        return twos;
    }

    int clashes() {
        return clashesOf(now);
    }

    int weed(int what) {
        int best = NONE;
        for (int set = 0; set < 1 << now.bills.size(); set++) {
            if ((best == NONE || Integer.bitCount(set) < Integer.bitCount(best)) && clashesOf(pulled(now, set)) == 0) {
                best = set;
            }
        }
        return what == 0 ? Integer.bitCount(best) : what == 1 ? best : NONE;
    }

    int places(int plant, int topic, int says) {
        if (now.bills.size() >= 12 || !isIn(plant, told.plants.size()) || !isIn(topic, told.topics.size()) || says < -9
            || says > 9) {
            return NONE;
        }
        int set = 0;
        for (int stake = 0; stake < told.stakes; stake++) {
            State s = now.copy();
            Bill b = new Bill();
            b.plant = plant;
            b.stake = stake;
            b.topic = topic;
            b.says = says;
            b.life = told.plant(plant).life;
            s.bills.add(b);
            boolean isGood = true;
            for (int t = 0; t < told.topics.size(); t++) {
                isGood &= lawOf(s, t) == (t == topic ? says : lawOf(now, t));
            }
            set |= isGood ? 1 << stake : 0;
        }
        return set;
    }

    int gaps() {
        int set = 0;
        for (int s = 0; s < told.stakes; s++) {
            set |= stake(s, 0) == 0 ? 1 << s : 0;
        }
        return set;
    }

    private static boolean hasRun(int set, int width) {
        for (int from = 0; from + width <= 12; from++) {
            int run = (1 << width) - 1 << from;
            if ((set & run) == run) {
                return true;
            }
        }
        return false;
    }

    int widest() {
        int width = 0;
        while (width < 12 && hasRun(gaps(), width + 1)) {
            width++;
        }
        return width;
    }

    int closes(int width) {
        if (width < 1 || width > 12) {
            return NONE;
        }
        int fewest = 99;
        for (int fill = 0; fill < 1 << told.stakes; fill++) {
            if (!hasRun(gaps() & ~fill, width)) {
                fewest = Math.min(fewest, Integer.bitCount(fill));
            }
        }
        return fewest;
    }

    int walk(int stake, int set) {
        if (!isIn(stake, told.stakes) || set < 0 || set >= 1 << told.stakes) {
            return NONE;
        }
        Deque<int[]> open = new ArrayDeque<>();
        Set<Integer> seen = new HashSet<>();
        open.add(new int[] {stake, set & ~(1 << stake), 0});
        while (true) {
            int[] at = open.removeFirst();
            if (at[1] == 0) {
                return at[2];
            }
            if (seen.add(at[0] << 16 | at[1])) {
                for (int to : new int[] {at[0] - 1, at[0] + 1}) {
                    if (isIn(to, told.stakes)) {
                        open.addLast(new int[] {to, at[1] & ~(1 << to), at[2] + 1});
                    }
                }
            }
        }
    }

    int plan(int years, int by) {
        lying.clear();
        if (years < 1 || years > 3 || by < 1 || by > 99) {
            return NONE;
        }
        int all = 1;
        for (int i = 0; i < years; i++) {
            all *= told.stakes + 1;
        }
        int best = -1;
        int bestTrims = 0;
        List<Integer> chosen = null;
        for (int n = 0; n < all; n++) {
            List<Integer> tried = new ArrayList<>();
            int rest = n;
            for (int i = 0; i < years; i++) {
                tried.add(0, rest % (told.stakes + 1) - 1);
                rest /= told.stakes + 1;
            }
            State s = now.copy();
            int trims = 0;
            for (int stake : tried) {
                if (stake != NONE) {
                    trims(s, stake, by);
                    trims++;
                }
                passes(s);
            }
            int stand = Integer.bitCount(standing(s));
            if (stand > best || stand == best && trims < bestTrims) {
                best = stand;
                bestTrims = trims;
                chosen = tried;
            }
        }
        lying.addAll(chosen);
        return best;
    }

    private int joyOf(State s, int party) {
        int sum = 0;
        for (int t = 0; t < told.topics.size(); t++) {
            Want w = told.wants.get(party + "/" + t);
            if (w != null) {
                sum += w.weight * Math.abs(w.value - lawOf(s, t));
            }
        }
        return -sum;
    }

    int joy(int party) {
        return isIn(party, told.parties.size()) ? joyOf(now, party) : 1;
    }

    int saddest() {
        int best = NONE;
        for (int p = told.parties.size() - 1; p >= 0; p--) {
            if (best == NONE || joy(p) <= joy(best)) {
                best = p;
            }
        }
        return best;
    }

    /** The bills pulled up from a party on, if all play as they should. */
    private List<Integer> play(State s, int party) {
        if (party == told.parties.size()) {
            return new ArrayList<>();
        }
        List<Integer> best = null;
        int bestJoy = 0;
        for (int bill = NONE; bill < s.bills.size(); bill++) {
            if (bill == NONE || s.bills.get(bill).life > 0) {
                State then = bill == NONE ? s : pulled(s, 1 << bill);
                List<Integer> line = play(then, party + 1);
                for (int p : line) {
                    then = p == NONE ? then : pulled(then, 1 << p);
                }
                int joy = joyOf(then, party);
                if (best == null || joy > bestJoy) {
                    best = line;
                    best.add(0, bill);
                    bestJoy = joy;
                }
            }
        }
        return best;
    }

    int game() {
        lying.clear();
        lying.addAll(play(now, 0));
        return (int) lying.stream().filter(b -> b != NONE).count();
    }

    int lies(int i) {
        return isIn(i, lying.size()) ? lying.get(i) : -2;
    }

    private int first() {
        return Math.min(5, now.bills.size());
    }

    int ring(int bill, int other, boolean isAhead) {
        if (!isIn(bill, first()) || !isIn(other, first()) || bill == other || rings.size() == 30) {
            return NONE;
        }
        rings.add(new Ring(isAhead ? bill : other, isAhead ? other : bill, time, new int[] {Integer.MAX_VALUE, 0}));
        return rings.size() - 1;
    }

    boolean untell(int ring) {
        if (!isIn(ring, rings.size()) || rings.get(ring).untold[1] == 1) {
            return false;
        }
        rings.get(ring).untold[0] = time;
        rings.get(ring).untold[1] = 1;
        return true;
    }

    int later(int by) {
        if (by < 0 || by > 1000 || time + by > 100000) {
            return NONE;
        }
        time += by;
        return time;
    }

    private void permute(List<Integer> order, List<List<Integer>> all) {
        if (order.size() == first()) {
            all.add(new ArrayList<>(order));
        }
        for (int b = 0; b < first(); b++) {
            if (!order.contains(b)) {
                order.add(b);
                permute(order, all);
                order.remove(order.size() - 1);
            }
        }
    }

    private boolean fits(List<Integer> order, int k) {
        for (int b = 0; b < first(); b++) {
            Bill it = now.bills.get(b);
            if (it.amends != NONE && order.indexOf(it.amends) > order.indexOf(b)
                || it.repeals != NONE && order.indexOf(it.repeals) > order.indexOf(b)) {
                return false;
            }
        }
        for (Ring r : rings) {
            boolean isOver = r.untold[1] == 1 && r.untold[0] <= k;
            if (r.told <= k && !isOver && r.ahead < now.bills.size() && r.behind < now.bills.size()
                && order.indexOf(r.ahead) > order.indexOf(r.behind)) {
                return false;
            }
        }
        return true;
    }

    private List<List<Integer>> all(int k) {
        List<List<Integer>> all = new ArrayList<>();
        permute(new ArrayList<>(), all);
        all.removeIf(o -> !fits(o, k));
        return all;
    }

    int orders(int k) {
        return all(k).size();
    }

    int sure(int bill, int k) {
        List<List<Integer>> all = all(k);
        if (all.isEmpty() || !isIn(bill, first())) {
            return NONE;
        }
        int seat = all.get(0).indexOf(bill);
        return all.stream().allMatch(o -> o.indexOf(bill) == seat) ? seat : -2;
    }

    int ask(int what, int k) {
        List<List<Integer>> all = all(k);
        if (all.isEmpty() || first() == 0 || !isIn(what, 2)) {
            return NONE;
        }
        int best = NONE;
        long bestLeft = 0;
        for (int b = 0; b < first(); b++) {
            long most = 0;
            for (int seat = 0; seat < first(); seat++) {
                int bill = b;
                int place = seat;
                most = Math.max(most, all.stream().filter(o -> o.get(place) == bill).count());
            }
            if (best == NONE || most < bestLeft) {
                best = b;
                bestLeft = most;
            }
        }
        return what == 0 ? best : (int) bestLeft;
    }

    int image(int box) {
        if (!isIn(box, 3)) {
            return NONE;
        }
        boxes[box] = now.copy();
        return now.year;
    }

    int back(int box) {
        if (!isIn(box, 3) || boxes[box] == null) {
            return NONE;
        }
        now = boxes[box].copy();
        before.clear();
        undone.clear();
        return now.year;
    }

    int about(int what) {
        if (!isIn(what, 15)) {
            return NONE;
        }
        return new int[] {now.bills.size(), told.stakes, told.plants.size(), told.topics.size(), told.parties.size(),
            now.year, now.seed, now.bills.stream().mapToInt(b -> b.life).sum(), before.size(), undone.size(),
            rings.size(), time, tape.length(), told.units, lying.size()}[what];
    }
}
