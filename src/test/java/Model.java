import java.math.BigInteger;
import java.util.ArrayList;
import java.util.LinkedHashMap;
import java.util.List;
import java.util.Map;
import java.util.Set;
import java.util.TreeSet;
import java.util.regex.Matcher;
import java.util.regex.Pattern;

/**
 * The document told a second time, in another manner and with all of the library: slow, made of maps, trees and
 * exceptions. ModelTest holds the class against it.
 */
final class Model {
    private static final Set<String> RESERVED = Set.of("turns", "slack", "rain", "odds", "reach", "bank", "gate",
            "holds", "mill", "at", "needs", "winder", "strength", "wage", "hour", "wind", "back", "oil", "dry", "any",
            "when", "stored", "ground", "raining", "loop", "end", "stop");

    /** A call that has a STATUS other than 0. */
    static final class Refused extends RuntimeException {
        final int status;

        Refused(int status) {
            super(null, null, false, false);
            this.status = status;
        }
    }

    static final class Fault extends Exception {
        final int kind;
        final int place;

        Fault(int kind, int place) {
            super(null, null, false, false);
            this.kind = kind;
            this.place = place;
        }
    }

    static final class Reach {
        String name;
        int bank;
        int gate;
        int holds;
        boolean flooded;
    }

    static final class Mill {
        String name;
        int reach;
        int needs;
        int ground;
    }

    static final class Winder {
        String name;
        int strength;
        int wage;
        int times;
    }

    static final class State {
        Map<String, Integer> numbers = new LinkedHashMap<>(Map.of("turns", 0, "slack", 1, "rain", 5, "odds", 4));
        int hour;
        int oil;
        boolean rains;
        long[] water = new long[6];
        List<Reach> reaches = new ArrayList<>();
        List<Mill> mills = new ArrayList<>();
        List<Winder> winders = new ArrayList<>();
        List<Step> weeks;

        State copy() {
            State s = new State();
            s.numbers = new LinkedHashMap<>(numbers);
            s.hour = hour;
            s.oil = oil;
            s.rains = rains;
            s.water = water.clone();
            for (Reach r : reaches) {
                Reach c = new Reach();
                c.name = r.name;
                c.bank = r.bank;
                c.gate = r.gate;
                c.holds = r.holds;
                s.reaches.add(c);
            }
            for (Mill m : mills) {
                Mill c = new Mill();
                c.name = m.name;
                c.reach = m.reach;
                c.needs = m.needs;
                c.ground = m.ground;
                s.mills.add(c);
            }
            for (Winder w : winders) {
                Winder c = new Winder();
                c.name = w.name;
                c.strength = w.strength;
                c.wage = w.wage;
                c.times = w.times;
                s.winders.add(c);
            }
            s.weeks = weeks;
            return s;
        }

        int turns() {
            return numbers.get("turns");
        }

        int ground() {
            return mills.stream().mapToInt(m -> m.ground).sum();
        }

        boolean law() {
            return (hour / 24 + 1) % 7 == 0;
        }

        void oneHour() {
            int n = reaches.size();
            int[] pass = new int[n];
            int[] come = new int[n];
            for (int i = 0; i < n; i++) {
                pass[i] = Math.min(reaches.get(i).holds, reaches.get(i).gate);
            }
            int t = turns();
            if (t >= 0) {
                water[4] += t;
                if (n == 0) {
                    water[0] += t;
                } else {
                    come[0] = t;
                    for (int i = 1; i < n; i++) {
                        come[i] = pass[i - 1];
                    }
                    water[0] += pass[n - 1];
                }
            } else {
                water[1] += -t;
                if (n == 0) {
                    water[2] += -t;
                } else {
                    come[n - 1] = -t;
                    for (int i = 0; i + 1 < n; i++) {
                        come[i] = pass[i + 1];
                    }
                    water[2] += pass[0];
                }
            }
            for (int i = 0; i < n; i++) {
                Reach r = reaches.get(i);
                r.holds = r.holds - pass[i] + come[i];
                if (rains) {
                    r.holds += numbers.get("rain");
                    water[5] += numbers.get("rain");
                }
                r.flooded = r.holds > r.bank;
                if (r.flooded) {
                    water[3] += r.holds - r.bank;
                    r.holds = r.bank;
                }
            }
            for (Mill m : mills) {
                if (pass[m.reach] >= m.needs) {
                    m.ground++;
                }
            }
            int by = numbers.get("slack");
            if (oil > 0) {
                by = by - by / 2;
                oil--;
            }
            numbers.put("turns", Math.abs(t) <= by ? 0 : t - by * Integer.signum(t));
            hour++;
        }

        State in(int hours) {
            State s = copy();
            for (int i = 0; i < hours; i++) {
                s.oneHour();
            }
            return s;
        }

        void windsOnce(int w, boolean backward) {
            int t = turns() + (backward ? -1 : 1) * winders.get(w).strength;
            numbers.put("turns", Math.min(60, Math.max(-60, t)));
            winders.get(w).times++;
        }
    }

    static final class Step {
        String word;
        int number;
        int thing = -1;
        boolean back;
        String test;
        String sign;
        List<Step> body = new ArrayList<>();
    }

    record Token(String text, int place) {
    }

    /** Reads TOKENS one by one; "" is the text's end, "?" what no TOKEN begins with. */
    static final class Reader {
        private static final Pattern TOKEN = Pattern.compile("[a-z]+|[0-9]+|[;<>=]");
        private final String text;
        private int at;

        Reader(String text) {
            this.text = text;
        }

        Token peek() {
            int i = at;
            while (i < text.length() && (text.charAt(i) == ' ' || text.charAt(i) == '\n')) {
                i++;
            }
            if (i == text.length()) {
                return new Token("", i);
            }
            Matcher m = TOKEN.matcher(text).region(i, text.length());
            if (!m.lookingAt() || m.group().matches("[0-9]{5,}")) {
                return new Token("?", i);
            }
            return new Token(m.group(), i);
        }

        Token take(String pattern) throws Fault {
            Token t = peek();
            if (t.text.equals("?")) {
                throw new Fault(1, t.place);
            }
            if (!t.text.matches(pattern)) {
                throw new Fault(2, t.place);
            }
            at = t.place + t.text.length();
            return t;
        }

        boolean takeIf(String word) throws Fault {
            if (!peek().text.equals(word)) {
                return false;
            }
            take(word);
            return true;
        }

        int number(int least, int most) throws Fault {
            Token t = take("[0-9]+");
            int v = Integer.parseInt(t.text);
            if (v < least || v > most) {
                throw new Fault(4, t.place);
            }
            return v;
        }

        Token name() throws Fault {
            Token t = take("[a-z]{1,8}");
            if (RESERVED.contains(t.text)) {
                throw new Fault(2, t.place);
            }
            return t;
        }
    }

    static int find(List<String> names, Token t) throws Fault {
        int i = names.indexOf(t.text);
        if (i < 0) {
            throw new Fault(3, t.place);
        }
        return i;
    }

    static List<String> reachNames(State s) {
        List<String> names = new ArrayList<>();
        s.reaches.forEach(r -> names.add(r.name));
        return names;
    }

    static List<String> millNames(State s) {
        List<String> names = new ArrayList<>();
        s.mills.forEach(m -> names.add(m.name));
        return names;
    }

    static List<String> winderNames(State s) {
        List<String> names = new ArrayList<>();
        s.winders.forEach(w -> names.add(w.name));
        return names;
    }

    static State readRiver(String text) throws Fault {
        State s = new State();
        Reader r = new Reader(text);
        Set<String> told = new TreeSet<>();
        Set<String> names = new TreeSet<>();
        while (!r.peek().text.isEmpty()) {
            Token t = r.take("turns|slack|rain|odds|reach|mill|winder");
            switch (t.text) {
                case "turns", "slack", "rain", "odds" -> {
                    if (!told.add(t.text)) {
                        throw new Fault(5, t.place);
                    }
                    int most = Map.of("turns", 60, "slack", 9, "rain", 99, "odds", 16).get(t.text);
                    s.numbers.put(t.text, r.number(0, most));
                }
                case "reach" -> {
                    if (s.reaches.size() == 6) {
                        throw new Fault(6, t.place);
                    }
                    Reach reach = new Reach();
                    reach.name = fresh(names, r.name());
                    r.take("bank");
                    reach.bank = r.number(0, 999);
                    r.take("gate");
                    reach.gate = r.number(0, 99);
                    if (r.takeIf("holds")) {
                        reach.holds = r.number(0, Math.min(999, reach.bank));
                    }
                    s.reaches.add(reach);
                }
                case "mill" -> {
                    if (s.mills.size() == 6) {
                        throw new Fault(6, t.place);
                    }
                    Mill mill = new Mill();
                    mill.name = fresh(names, r.name());
                    r.take("at");
                    mill.reach = find(reachNames(s), r.name());
                    r.take("needs");
                    mill.needs = r.number(1, 99);
                    s.mills.add(mill);
                }
                default -> {
                    if (s.winders.size() == 6) {
                        throw new Fault(6, t.place);
                    }
                    Winder winder = new Winder();
                    winder.name = fresh(names, r.name());
                    r.take("strength");
                    winder.strength = r.number(1, 40);
                    winder.wage = r.takeIf("wage") ? r.number(0, 99) : 1;
                    s.winders.add(winder);
                }
            }
            r.take(";");
        }
        return s;
    }

    private static String fresh(Set<String> names, Token t) throws Fault {
        if (!names.add(t.text)) {
            throw new Fault(3, t.place);
        }
        return t.text;
    }

    /** Reads STEPS up to the text's end, or to an end; counts them in count[0]. */
    static List<Step> readSteps(Reader r, State s, int depth, int[] count) throws Fault {
        List<Step> steps = new ArrayList<>();
        while (true) {
            Token t = r.peek();
            if (depth == 0 && t.text.isEmpty()) {
                return steps;
            }
            if (depth > 0 && t.text.equals("end")) {
                r.take("end");
                r.take(";");
                return steps;
            }
            r.take("hour|wind|oil|gate|rain|dry|any|when|loop|stop");
            if (++count[0] > 30) {
                throw new Fault(6, t.place);
            }
            Step step = new Step();
            step.word = t.text;
            steps.add(step);
            boolean deep = t.text.equals("when") || t.text.equals("loop");
            if (deep && depth == 3) {
                throw new Fault(7, t.place);
            }
            switch (t.text) {
                case "hour" -> step.number = r.number(1, 24);
                case "wind" -> {
                    step.thing = find(winderNames(s), r.name());
                    step.back = r.takeIf("back");
                }
                case "gate" -> {
                    step.thing = find(reachNames(s), r.name());
                    step.number = r.number(0, 99);
                }
                case "when" -> {
                    step.test = r.take("stored|ground|raining").text;
                    if (!step.test.equals("raining")) {
                        boolean stored = step.test.equals("stored");
                        step.thing = find(stored ? reachNames(s) : millNames(s), r.name());
                        step.sign = r.take("[<>=]").text;
                        step.number = r.number(0, stored ? 999 : 9999);
                    }
                }
                case "loop" -> step.number = r.number(1, 99);
                default -> {
                }
            }
            r.take(";");
            if (deep) {
                step.body = readSteps(r, s, depth + 1, count);
            }
        }
    }

    /** Ends a life at a stop, or at the 301st STEP. */
    static final class Over extends Exception {
        Over() {
            super(null, null, false, false);
        }
    }

    static final class Life {
        final State s;
        long seed;
        int steps;
        int missed;
        int hours;
        int winds;
        int left;
        int groundAhead;

        Life(State s, int seed) {
            this.s = s;
            this.seed = seed;
            groundAhead = s.ground();
        }

        int draw(int n) {
            seed = (seed * 2971 + 10799) % 65536;
            return (int) (seed / 8 % n);
        }

        void run() {
            try {
                all(s.weeks);
            } catch (Over over) {
                return;
            }
        }

        void all(List<Step> steps) throws Over {
            for (Step step : steps) {
                one(step);
            }
        }

        void one(Step step) throws Over {
            if (steps == 300) {
                left = 1;
                throw new Over();
            }
            steps++;
            switch (step.word) {
                case "hour" -> {
                    if (s.hour + step.number > 9999) {
                        missed++;
                    } else {
                        for (int i = 0; i < step.number; i++) {
                            s.oneHour();
                        }
                        hours += step.number;
                    }
                }
                case "wind" -> wind(step.thing, step.back);
                case "oil" -> s.oil = 12;
                case "gate" -> {
                    if (s.reaches.get(step.thing).gate == step.number) {
                        missed++;
                    }
                    s.reaches.get(step.thing).gate = step.number;
                }
                case "rain", "dry" -> {
                    if (s.rains == step.word.equals("rain")) {
                        missed++;
                    }
                    s.rains = step.word.equals("rain");
                }
                case "any" -> {
                    if (s.winders.isEmpty()) {
                        missed++;
                    } else {
                        s.rains = draw(16) < s.numbers.get("odds");
                        wind(draw(s.winders.size()), false);
                    }
                }
                case "when" -> {
                    if (holds(step)) {
                        all(step.body);
                    }
                }
                case "loop" -> {
                    for (int i = 0; i < step.number; i++) {
                        all(step.body);
                    }
                }
                default -> throw new Over();
            }
        }

        void wind(int w, boolean back) {
            if (s.law()) {
                missed++;
            } else {
                s.windsOnce(w, back);
                winds++;
            }
        }

        boolean holds(Step step) {
            if (step.test.equals("raining")) {
                return s.rains;
            }
            int is = step.test.equals("stored") ? s.reaches.get(step.thing).holds : s.mills.get(step.thing).ground;
            return step.sign.equals("<") ? is < step.number : step.sign.equals(">") ? is > step.number
                    : is == step.number;
        }
    }

    State s = new State();
    int status;
    BigInteger top = BigInteger.ZERO;
    BigInteger bottom = BigInteger.ONE;
    private final long[][] trays = new long[4][];
    private final int[] sorts = new int[4];
    private String tape = "";
    private int fault = -1;
    private int faultPlace = -1;
    private final List<State> marks = new ArrayList<>();
    private int[] lived;

    private static void need(boolean holds, int status) {
        if (!holds) {
            throw new Refused(status);
        }
    }

    /** Answers a call by its name; a boolean counts 1 or 0. */
    long call(String name, long... a) {
        int[] i = new int[a.length];
        for (int k = 0; k < a.length; k++) {
            i[k] = (int) a[k];
        }
        switch (name) {
            case "status":
                return status;
            case "top":
                return top.longValueExact();
            case "bottom":
                return bottom.longValueExact();
            case "fault":
                return i[0] == 0 ? fault : i[0] == 1 ? faultPlace : -1;
            case "feed":
                return feed(i);
            default:
        }
        boolean isBoolean = Set.of("tray", "write", "pour", "rain", "rule", "train", "share", "price", "wet", "mean")
                .contains(name);
        try {
            long answer = answer(name, i, a);
            status = 0;
            return answer;
        } catch (Refused refused) {
            status = refused.status;
            return isBoolean ? 0 : -1;
        }
    }

    private int feed(int[] i) {
        if (tape.length() + 20 > 900) {
            return -1;
        }
        StringBuilder b = new StringBuilder(tape);
        for (int v : i) {
            b.append((char) (v >>> 24)).append((char) (v >>> 16 & 255)).append((char) (v >>> 8 & 255))
                    .append((char) (v & 255));
        }
        tape = b.toString();
        return tape.length();
    }

    private void tell(long t, long b) {
        BigInteger x = BigInteger.valueOf(t);
        BigInteger y = BigInteger.valueOf(b);
        BigInteger d = x.gcd(y);
        top = x.divide(d);
        bottom = y.divide(d);
    }

    private void needReach(int r) {
        need(r >= 0 && r < s.reaches.size(), 2);
    }

    private void needMill(int m) {
        need(m >= 0 && m < s.mills.size(), 2);
    }

    private void needWinder(int w) {
        need(w >= 0 && w < s.winders.size(), 2);
    }

    private static void needIn(long v, long least, long most) {
        need(v >= least && v <= most, 5);
    }

    private long answer(String name, int[] i, long[] a) {
        switch (name) {
            case "tray": case "write": case "read": case "pour": case "copyStored":
                return answerTrays(name, i, a);
            case "river": case "weeks":
                return answerTexts(name, i);
            case "many": case "turnsLeft": case "water": case "reach": case "mill": case "winder":
                return answerWhatIs(name, i);
            case "hour": case "wind": case "oil": case "gate": case "rain": case "bring": case "rule": case "build":
            case "train":
                return answerDone(name, i);
            case "turnsIn": case "storedIn": case "groundIn": case "seaIn": case "dryIn": case "floodIn":
            case "stillIn": case "lawIn":
                return answerAhead(name, i);
            case "enough": case "bestGate": case "bestGround": case "hire": case "hireAt":
                return answerBest(name, i);
            case "wound": case "sure": case "cheapest":
                return answerWound(name, i);
            default:
                return answerRest(name, i);
        }
    }

    private long answerTrays(String name, int[] i, long[] a) {
        need(i[0] >= 0 && i[0] < 4, 1);
        switch (name) {
            case "tray" -> {
                need(i[1] >= 0 && i[1] < 4, 1);
                needIn(i[2], Integer.MIN_VALUE, 60);
                need(i[2] >= 0, 6);
                trays[i[0]] = new long[i[2]];
                sorts[i[0]] = i[1];
                return 1;
            }
            case "pour" -> {
                need(i[2] >= 0 && i[2] < 4, 1);
                need(trays[i[0]] != null && trays[i[2]] != null, 3);
                need(sorts[i[0]] == sorts[i[2]], 11);
                need(i[4] >= 0, 6);
                need(i[1] >= 0 && i[1] + a[4] <= trays[i[0]].length, 4);
                need(i[3] >= 0 && i[3] + a[4] <= trays[i[2]].length, 4);
                long[] from = trays[i[0]].clone();
                for (int k = 0; k < i[4]; k++) {
                    trays[i[2]][i[3] + k] = from[i[1] + k];
                }
                return 1;
            }
            default -> {
            }
        }
        long[] tray = trays[i[0]];
        need(tray != null, 3);
        if (name.equals("copyStored")) {
            need(s.reaches.size() <= tray.length, 4);
            for (int k = 0; k < s.reaches.size(); k++) {
                tray[k] = cut(sorts[i[0]], s.reaches.get(k).holds);
            }
            return s.reaches.size();
        }
        need(i[1] >= 0 && i[1] < tray.length, 4);
        if (name.equals("read")) {
            return tray[i[1]];
        }
        tray[i[1]] = cut(sorts[i[0]], a[2]);
        return 1;
    }

    private static long cut(int sort, long v) {
        int bits = 64 - (8 << sort);
        return v << bits >> bits;
    }

    private long answerTexts(String name, int[] i) {
        needIn(i[0], 0, name.equals("river") ? tape.length() : Math.min(300, tape.length()));
        String text = tape.substring(0, i[0]);
        tape = "";
        fault = 0;
        faultPlace = -1;
        try {
            if (name.equals("river")) {
                s = readRiver(text);
                return s.reaches.size();
            }
            int[] count = new int[1];
            s.weeks = readSteps(new Reader(text), s, 0, count);
            return count[0];
        } catch (Fault f) {
            fault = f.kind;
            faultPlace = f.place;
            throw new Refused(10);
        }
    }

    private long answerWhatIs(String name, int[] i) {
        switch (name) {
            case "many":
                needIn(i[0], 0, 12);
                int wages = s.winders.stream().mapToInt(w -> w.times * w.wage).sum();
                int held = s.reaches.stream().mapToInt(r -> r.holds).sum();
                return new int[] {s.reaches.size(), s.mills.size(), s.winders.size(), s.numbers.get("slack"),
                    s.numbers.get("rain"), s.numbers.get("odds"), s.hour, s.hour / 24, s.rains ? 1 : 0, s.oil, held,
                    wages, s.ground()}[i[0]];
            case "turnsLeft":
                return s.turns();
            case "water":
                needIn(i[0], 0, 5);
                return s.water[i[0]];
            case "reach":
                needReach(i[0]);
                needIn(i[1], 0, 4);
                Reach r = s.reaches.get(i[0]);
                return new long[] {r.bank, r.gate, r.holds, Math.min(r.holds, r.gate),
                    s.mills.stream().filter(m -> m.reach == i[0]).count()}[i[1]];
            case "mill":
                needMill(i[0]);
                needIn(i[1], 0, 2);
                Mill m = s.mills.get(i[0]);
                return new int[] {m.reach, m.needs, m.ground}[i[1]];
            default:
                needWinder(i[0]);
                needIn(i[1], 0, 3);
                Winder w = s.winders.get(i[0]);
                return new int[] {w.strength, w.wage, w.times, w.times * w.wage}[i[1]];
        }
    }

    private long answerDone(String name, int[] i) {
        switch (name) {
            case "hour":
                needIn(i[0], 1, 168);
                need(s.hour + i[0] <= 9999, 7);
                int before = s.ground();
                for (int k = 0; k < i[0]; k++) {
                    s.oneHour();
                }
                return s.ground() - before;
            case "wind":
                needWinder(i[0]);
                need(!s.law(), 9);
                s.windsOnce(i[0], i[1] == 1);
                return s.turns();
            case "oil":
                s.oil = 12;
                return 12;
            case "gate":
                needReach(i[0]);
                needIn(i[1], 0, 99);
                int old = s.reaches.get(i[0]).gate;
                need(old != i[1], 9);
                s.reaches.get(i[0]).gate = i[1];
                return old;
            case "rain":
                need(s.rains != (i[0] == 1), 9);
                s.rains = i[0] == 1;
                return 1;
            case "bring":
                needReach(i[0]);
                needIn(i[1], -999, 999);
                need(i[1] != 0, 5);
                Reach r = s.reaches.get(i[0]);
                need(r.holds >= -i[1], 9);
                r.holds += i[1];
                s.water[3] += Math.max(0, r.holds - r.bank);
                r.holds = Math.min(r.holds, r.bank);
                return r.holds;
            case "rule":
                needIn(i[0], 3, 5);
                needIn(i[1], 0, new int[] {9, 99, 16}[i[0] - 3]);
                s.numbers.put(new String[] {"slack", "rain", "odds"}[i[0] - 3], i[1]);
                return 1;
            case "build":
                needReach(i[0]);
                needIn(i[1], 1, 99);
                need(s.mills.size() < 6, 7);
                Mill m = new Mill();
                m.reach = i[0];
                m.needs = i[1];
                s.mills.add(m);
                return s.mills.size() - 1;
            default:
                needWinder(i[0]);
                needIn(i[1], 1, 40);
                s.winders.get(i[0]).strength = i[1];
                return 1;
        }
    }

    private long answerAhead(String name, int[] i) {
        switch (name) {
            case "turnsIn":
                needIn(i[0], 0, 500);
                return s.in(i[0]).turns();
            case "seaIn":
                needIn(i[0], 0, 500);
                return s.in(i[0]).water[0] - s.water[0];
            case "storedIn":
                needReach(i[0]);
                needIn(i[1], 0, 500);
                return s.in(i[1]).reaches.get(i[0]).holds;
            case "groundIn":
                needMill(i[0]);
                needIn(i[1], 0, 500);
                return s.in(i[1]).mills.get(i[0]).ground - s.mills.get(i[0]).ground;
            case "dryIn": {
                needReach(i[0]);
                State t = s.copy();
                for (int k = 0; k <= 500; k++, t.oneHour()) {
                    if (t.reaches.get(i[0]).holds == 0) {
                        return k;
                    }
                }
                throw new Refused(8);
            }
            case "floodIn": {
                needReach(i[0]);
                State t = s.copy();
                for (int k = 0; k <= 499; k++) {
                    t.oneHour();
                    if (t.reaches.get(i[0]).flooded) {
                        return k;
                    }
                }
                throw new Refused(8);
            }
            case "stillIn": {
                State t = s.copy();
                for (int k = 0; k <= 100; k++, t.oneHour()) {
                    if (t.turns() == 0) {
                        return k;
                    }
                }
                throw new Refused(8);
            }
            default: {
                State t = s.copy();
                int k = 0;
                while (t.law()) {
                    t.hour++;
                    k++;
                }
                return k;
            }
        }
    }

    private long answerBest(String name, int[] i) {
        switch (name) {
            case "enough":
                needMill(i[0]);
                needIn(i[1], 0, 100);
                needIn(i[2], 0, i[1]);
                for (int t = 0; t <= 60; t++) {
                    State c = s.copy();
                    c.numbers.put("turns", t);
                    if (c.in(i[1]).mills.get(i[0]).ground - s.mills.get(i[0]).ground >= i[2]) {
                        return t;
                    }
                }
                throw new Refused(8);
            case "bestGate": case "bestGround":
                needReach(i[0]);
                needIn(i[1], 0, 48);
                int gate = 0;
                int most = -1;
                for (int g = 99; g >= 0; g--) {
                    State c = s.copy();
                    c.reaches.get(i[0]).gate = g;
                    int ground = c.in(i[1]).ground() - s.ground();
                    if (ground >= most) {
                        most = ground;
                        gate = g;
                    }
                }
                return name.equals("bestGate") ? gate : most;
            default:
                needIn(i[0], 1, 4);
                needIn(i[1], 0, 999);
                if (name.equals("hireAt")) {
                    needIn(i[2], 0, i[0] - 1);
                }
                List<Integer> best = hire(i[0], i[1]);
                need(best != null, 8);
                return name.equals("hire") ? wagesOf(best) : best.get(i[2]);
        }
    }

    private int wagesOf(List<Integer> way) {
        return way.stream().mapToInt(w -> w == 6 ? 0 : s.winders.get(w).wage).sum();
    }

    private List<Integer> hire(int spells, int ground) {
        List<Integer> best = null;
        int n = s.winders.size() + 1;
        int ways = (int) Math.round(Math.pow(n, spells));
        for (int way = 0; way < ways; way++) {
            List<Integer> hands = new ArrayList<>();
            for (int k = 0, rest = way; k < spells; k++, rest /= n) {
                hands.add(0, rest % n == n - 1 ? 6 : rest % n);
            }
            if (best != null && wagesOf(hands) >= wagesOf(best)) {
                continue;
            }
            State c = s.copy();
            for (int w : hands) {
                if (w != 6) {
                    c.windsOnce(w, false);
                }
                c = c.in(4);
            }
            if (c.ground() - s.ground() >= ground) {
                best = hands;
            }
        }
        return best;
    }

    private long answerWound(String name, int[] i) {
        needIn(i[0], 0, 60);
        needIn(i[1], 0, 60);
        int sets = 0;
        int all = -1;
        int least = Integer.MAX_VALUE;
        for (int set = 0; set < 1 << s.winders.size(); set++) {
            State c = s.copy();
            c.numbers.put("turns", i[0]);
            int wages = 0;
            for (int w = 0; w < s.winders.size(); w++) {
                if ((set & 1 << w) != 0) {
                    c.windsOnce(w, false);
                    wages += s.winders.get(w).wage;
                }
            }
            if (c.turns() == i[1]) {
                sets++;
                all &= set;
                least = Math.min(least, wages);
            }
        }
        if (name.equals("wound")) {
            return sets;
        }
        need(sets > 0, 8);
        return name.equals("sure") ? all : least;
    }

    /** The lead and the move by which it comes about. */
    private static int[] play(State c, int first, int second, int turn, int turns) {
        if (turn == turns) {
            return new int[] {c.mills.get(first).ground - c.mills.get(second).ground, -1};
        }
        int[] best = null;
        for (int move = 0; move < 3; move++) {
            State next = c.copy();
            int mill = turn % 2 == 0 ? first : second;
            Reach reach = next.reaches.get(next.mills.get(mill).reach);
            reach.gate = move == 0 ? 99 : move == 1 ? 0 : reach.gate;
            next.oneHour();
            int lead = play(next, first, second, turn + 1, turns)[0];
            if (best == null || (turn % 2 == 0 ? lead > best[0] : lead < best[0])) {
                best = new int[] {lead, move};
            }
        }
        return best;
    }

    private long answerRest(String name, int[] i) {
        switch (name) {
            case "game": case "moveOf":
                needMill(i[0]);
                needMill(i[1]);
                need(i[0] != i[1], 5);
                needIn(i[2], name.equals("game") ? 0 : 1, 4);
                int[] best = play(s, i[0], i[1], 0, i[2]);
                int lead = s.mills.get(i[0]).ground - s.mills.get(i[1]).ground;
                return name.equals("game") ? best[0] - lead : best[1];
            case "share":
                needMill(i[0]);
                need(s.ground() > 0, 8);
                tell(s.mills.get(i[0]).ground, s.ground());
                return 1;
            case "price":
                needWinder(i[0]);
                tell(s.winders.get(i[0]).wage, s.winders.get(i[0]).strength);
                return 1;
            case "wet":
                needIn(i[0], 0, 12);
                needIn(i[1], 0, 12);
                tell(wet(i[0], i[1]), 1L << 4 * i[0]);
                return 1;
            case "live": {
                needIn(i[0], 0, 9999);
                need(s.weeks != null, 8);
                Life life = new Life(s, i[0]);
                life.run();
                lived = new int[] {life.missed, life.hours, s.ground() - life.groundAhead, life.winds, life.left};
                return life.steps;
            }
            case "lived":
                needIn(i[0], 0, 4);
                need(lived != null, 8);
                return lived[i[0]];
            case "mean": {
                needIn(i[0], 0, 9999);
                needIn(i[1], 1, 20);
                needIn(i[0] + i[1] - 1, 0, 9999);
                need(s.weeks != null, 8);
                long sum = 0;
                for (int k = 0; k < i[1]; k++) {
                    Life life = new Life(s.copy(), i[0] + k);
                    life.run();
                    sum += life.s.ground();
                }
                tell(sum, i[1]);
                return 1;
            }
            case "mark":
                need(marks.size() < 3, 7);
                marks.add(s.copy());
                return marks.size();
            case "back":
                need(!marks.isEmpty(), 8);
                s = marks.remove(marks.size() - 1);
                return marks.size();
            default:
                throw new IllegalArgumentException(name);
        }
    }

    /** Of 16 to the n ways, in how many it rains in k HOURS or more: hour by hour, wet or not. */
    private long wet(int n, int k) {
        if (n == 0) {
            return k <= 0 ? 1 : 0;
        }
        int odds = s.numbers.get("odds");
        return odds * wet(n - 1, k - 1) + (16 - odds) * wet(n - 1, k);
    }
}
