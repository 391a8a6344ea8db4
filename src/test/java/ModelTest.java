import java.util.ArrayList;
import java.util.List;
import java.util.Random;

/** Runs of drawn calls, the draws from fixed seeds: the class must answer as the Model does, call by call. */
public final class ModelTest {
    private static final String[] NAMES = {"a", "bo", "cam", "dell", "eel", "fen", "gull", "hay", "ivy", "jetty",
        "kiln", "lock", "moss", "nettle", "oak", "pondside", "quay", "rush"};
    private static final String[] ODD = {"turns", "end", "back", "waterside", "12345", "!", "A", ";", "<", "9999",
        "0", "100", "1000", "x", "\u00e9", "\t", "at", "any 1", "stop;", "end;", "loop 1;", "mill", "reach"};

    private final Random draws;
    private final ClockRiver x = new ClockRiver();
    private final Model model = new Model();
    private final List<String> log = new ArrayList<>();
    private final List<String> reaches = new ArrayList<>();
    private final List<String> mills = new ArrayList<>();
    private final List<String> winders = new ArrayList<>();

    private ModelTest(long seed) {
        draws = new Random(seed);
    }

    public static void main(String[] args) {
        int runs = args.length > 0 ? Integer.parseInt(args[0]) : 1500;
        int wrong = 0;
        for (int seed = 0; seed < runs && wrong < 5; seed++) {
            ModelTest run = new ModelTest(seed);
            String fault = run.go();
            if (fault != null) {
                wrong++;
                System.out.println("run " + seed + ": " + fault);
                int from = Math.max(0, run.log.size() - 60);
                run.log.subList(from, run.log.size()).forEach(line -> System.out.println("    " + line));
            }
        }
        System.out.println("ModelTest: " + runs + " runs, " + wrong + " of them wrong");
        if (wrong != 0) {
            System.exit(1);
        }
    }

    private String go() {
        try {
            int calls = 0;
            while (calls < 300) {
                String fault = draws.nextInt(12) == 0 || calls == 0 ? drawText() : drawCall();
                if (fault != null) {
                    return fault;
                }
                calls += 1;
            }
            return null;
        } catch (RuntimeException e) {
            return "it threw " + e;
        }
    }

    private int upTo(int n) {
        return draws.nextInt(n + 1);
    }

    private boolean oneIn(int n) {
        return draws.nextInt(n) == 0;
    }

    /** A number from least to most, often an end, seldom beyond. */
    private int about(int least, int most) {
        switch (draws.nextInt(16)) {
            case 0:
                return least;
            case 1:
                return most;
            case 2:
                return oneIn(3) ? least - 1 : least;
            case 3:
                return oneIn(3) ? most + 1 : most;
            case 4:
                return oneIn(6) ? new int[] {Integer.MIN_VALUE, Integer.MAX_VALUE, -1, 0}[upTo(3)] : least;
            default:
                return least + draws.nextInt(most - least + 1);
        }
    }

    // ---- texts

    private String drawText() {
        boolean isRiver = model.s.reaches.isEmpty() && !oneIn(6) || oneIn(5);
        String text = isRiver ? drawRiver() : drawWeeks();
        if (oneIn(4)) {
            text = spoil(text);
        }
        if (text.length() > (isRiver ? 900 : 300)) {
            text = text.substring(0, isRiver ? 900 : 300);
        }
        for (int i = 0; i < text.length(); i += 20) {
            long[] five = new long[5];
            for (int j = 0; j < 20; j++) {
                int b = i + j < text.length() ? text.charAt(i + j) & 255 : 32;
                five[j / 4] = (int) (five[j / 4] << 8 | b);
            }
            String fault = compare("feed", five);
            if (fault != null) {
                return fault;
            }
        }
        log.add("\"" + text + "\"");
        int n = oneIn(20) ? about(0, text.length()) : text.length();
        String fault = compare(isRiver ? "river" : "weeks", n);
        return fault != null ? fault : compareFaults();
    }

    private String compareFaults() {
        for (int what = -1; what <= 2; what++) {
            String fault = compare("fault", what);
            if (fault != null) {
                return fault;
            }
        }
        return null;
    }

    private String spoil(String text) {
        StringBuilder b = new StringBuilder(text);
        int at = upTo(b.length());
        switch (draws.nextInt(4)) {
            case 0:
                b.insert(at, ODD[draws.nextInt(ODD.length)]);
                break;
            case 1:
                b.delete(at, Math.min(b.length(), at + 1 + upTo(6)));
                break;
            case 2:
                b.setLength(at);
                break;
            default:
                b.insert(at, " " + ODD[draws.nextInt(ODD.length)] + " ");
        }
        return b.toString();
    }

    private String number(int least, int most) {
        int v = oneIn(40) ? about(0, 9999) : least + draws.nextInt(most - least + 1);
        String digits = Integer.toString(Math.abs(v));
        return oneIn(20) && digits.length() < 4 ? "0" + digits : digits;
    }

    private String newName() {
        String name = NAMES[draws.nextInt(NAMES.length)];
        for (int i = 0; i < 60; i++) {
            if (!reaches.contains(name) && !mills.contains(name) && !winders.contains(name)) {
                return name;
            }
            name = NAMES[draws.nextInt(NAMES.length)];
        }
        return name;
    }

    private String drawRiver() {
        reaches.clear();
        mills.clear();
        winders.clear();
        StringBuilder b = new StringBuilder();
        if (!oneIn(4)) {
            b.append("turns ").append(number(0, 60)).append(";");
        }
        if (!oneIn(3)) {
            b.append("slack ").append(number(0, oneIn(2) ? 3 : 9)).append("; ");
        }
        if (oneIn(2)) {
            b.append("rain ").append(number(0, oneIn(2) ? 9 : 99)).append(";\n");
        }
        if (oneIn(2)) {
            b.append("odds ").append(number(0, 16)).append(" ;");
        }
        int many = upTo(oneIn(30) ? 7 : 6);
        boolean large = oneIn(3);
        for (int i = 0; i < many; i++) {
            addReach(b, large);
        }
        many = upTo(oneIn(30) ? 7 : 6);
        for (int i = 0; i < many && !reaches.isEmpty(); i++) {
            String name = newName();
            b.append("mill ").append(name).append(" at ").append(reaches.get(draws.nextInt(reaches.size())))
                    .append(" needs ").append(number(1, large ? 99 : 12)).append(";");
            mills.add(name);
        }
        many = upTo(oneIn(30) ? 7 : 6);
        for (int i = 0; i < many; i++) {
            String name = newName();
            b.append("winder ").append(name).append(" strength ").append(number(1, 40));
            if (oneIn(2)) {
                b.append(" wage ").append(number(0, oneIn(2) ? 4 : 99));
            }
            b.append(";");
            winders.add(name);
        }
        if (oneIn(15)) {
            b.append(new String[] {"rain 3;", "odds 2;", "turns 1;", "slack 2;"}[draws.nextInt(4)]);
        }
        return b.toString();
    }

    private void addReach(StringBuilder b, boolean large) {
        String name = newName();
        int bank = draws.nextInt(large ? 1000 : 60);
        b.append("reach ").append(name).append(" bank ").append(bank).append(" gate ")
                .append(number(0, large ? 99 : 15));
        if (oneIn(2)) {
            b.append(" holds ").append(number(0, bank));
        }
        b.append(";");
        reaches.add(name);
    }

    private String drawWeeks() {
        StringBuilder b = new StringBuilder();
        int[] left = {1 + upTo(oneIn(20) ? 32 : 14)};
        while (left[0] > 0) {
            drawStep(b, 0, left);
        }
        return b.toString();
    }

    private String of(List<String> names) {
        if (names.isEmpty() || oneIn(60)) {
            return NAMES[draws.nextInt(NAMES.length)];
        }
        return names.get(draws.nextInt(names.size()));
    }

    private void drawStep(StringBuilder b, int depth, int[] left) {
        left[0]--;
        int most = depth < 3 || oneIn(30) ? 14 : 10;
        switch (draws.nextInt(most)) {
            case 0: case 1: case 2:
                b.append("hour ").append(number(1, 24)).append(";");
                break;
            case 3:
                if (winders.isEmpty()) {
                    b.append("any;");
                } else {
                    b.append("wind ").append(of(winders)).append(oneIn(3) ? " back;" : ";");
                }
                break;
            case 4:
                b.append("oil;");
                break;
            case 5:
                if (reaches.isEmpty()) {
                    b.append("dry;");
                } else {
                    b.append("gate ").append(of(reaches)).append(" ").append(number(0, 99)).append(";");
                }
                break;
            case 6:
                b.append("rain;");
                break;
            case 7:
                b.append("dry;");
                break;
            case 8:
                b.append("any;");
                break;
            case 9:
                b.append(oneIn(4) ? "stop;" : "any;");
                break;
            default:
                drawBlock(b, depth, left);
        }
    }

    private void drawBlock(StringBuilder b, int depth, int[] left) {
        if (oneIn(2)) {
            b.append("loop ").append(number(1, oneIn(2) ? 4 : 99)).append(";");
        } else if (oneIn(3) || reaches.isEmpty() || mills.isEmpty()) {
            b.append("when raining;");
        } else if (oneIn(2)) {
            b.append("when stored ").append(of(reaches)).append("<>=".charAt(draws.nextInt(3)))
                    .append(number(0, 30)).append(";");
        } else {
            b.append("when ground ").append(of(mills)).append(" ").append("<>=".charAt(draws.nextInt(3))).append(" ")
                    .append(number(0, 60)).append(";");
        }
        int steps = upTo(4);
        for (int i = 0; i < steps && left[0] > 0; i++) {
            drawStep(b, depth + 1, left);
        }
        b.append("end;");
    }

    // ---- calls

    private String drawCall() {
        int reach = about(0, Math.max(0, model.s.reaches.size() - 1));
        int mill = about(0, Math.max(0, model.s.mills.size() - 1));
        int winder = about(0, Math.max(0, model.s.winders.size() - 1));
        switch (draws.nextInt(56)) {
            case 0:
                return compare("tray", about(0, 3), about(0, 3), about(0, 60));
            case 1:
                return compare("write", about(0, 3), about(0, 8), draws.nextLong() >> draws.nextInt(64));
            case 2:
                return compare("read", about(0, 3), about(0, 8));
            case 3:
                return compare("pour", about(0, 3), about(0, 8), about(0, 3), about(0, 8), about(0, 8));
            case 4:
                return compare("many", about(0, 12));
            case 5:
                return compare("turnsLeft");
            case 6:
                return compare("water", about(0, 5));
            case 7:
                return compare("reach", reach, about(0, 4));
            case 8:
                return compare("mill", mill, about(0, 2));
            case 9:
                return compare("winder", winder, about(0, 3));
            case 10:
                return compare("copyStored", about(0, 3));
            case 11: case 12: case 13:
                return compare("hour", about(1, oneIn(3) ? 168 : 12));
            case 14: case 15: case 16:
                return compare("wind", winder, upTo(1));
            case 17:
                return compare("oil");
            case 18: case 19:
                return compare("gate", reach, about(0, 99));
            case 20:
                return compare("rain", upTo(1));
            case 21:
                return compare("bring", reach, oneIn(2) ? about(-999, 999) : about(-20, 20));
            case 22:
                return compare("rule", about(3, 5), about(0, new int[] {9, 16, 99}[upTo(2)]));
            case 23:
                return compare("build", reach, about(1, 99));
            case 24:
                return compare("train", winder, about(1, 40));
            case 25:
                return compare("turnsIn", about(0, oneIn(2) ? 20 : 500));
            case 26:
                return compare("storedIn", reach, about(0, oneIn(2) ? 20 : 500));
            case 27:
                return compare("groundIn", mill, about(0, 500));
            case 28:
                return compare("seaIn", about(0, 500));
            case 29:
                return compare("dryIn", reach);
            case 30:
                return compare("floodIn", reach);
            case 31:
                return compare("stillIn");
            case 32:
                return compare("lawIn");
            case 33: {
                int n = about(0, oneIn(3) ? 100 : 10);
                return compare("enough", mill, n, about(0, Math.max(0, n < 200 ? n : 3)));
            }
            case 34:
                return compare("bestGate", reach, about(0, 48));
            case 35:
                return compare("bestGround", reach, about(0, 48));
            case 36:
                return compare("hire", hireArguments(2));
            case 37:
                return compare("hireAt", hireArguments(3));
            case 38:
                return compare("wound", about(0, 60), about(0, 60));
            case 39:
                return compare("sure", about(0, 60), oneIn(2) ? 60 : about(0, 60));
            case 40:
                return compare("cheapest", about(0, 60), oneIn(2) ? 60 : about(0, 60));
            default:
                return drawLateCall(mill, winder);
        }
    }

    private long[] hireArguments(int many) {
        int spells = about(1, oneIn(3) ? 4 : 3);
        long ground = oneIn(5) ? about(0, 999) : upTo(4 * Math.max(1, Math.min(4, spells)) * 3);
        return many == 2 ? new long[] {spells, ground} : new long[] {spells, ground, about(0, 3)};
    }

    private String drawLateCall(int mill, int winder) {
        int other = about(0, Math.max(0, model.s.mills.size() - 1));
        switch (draws.nextInt(14)) {
            case 0:
                return compare("game", mill, other, about(0, 4));
            case 1:
                return compare("moveOf", mill, other, about(0, 4));
            case 2:
                return compare("share", mill);
            case 3:
                return compare("price", winder);
            case 4:
                return compare("wet", about(0, 12), about(0, 12));
            case 5: case 6: case 7:
                return compare("live", about(0, 9999));
            case 8:
                return compare("lived", about(0, 4));
            case 9:
                return compare("mean", oneIn(4) ? about(9980, 9999) : about(0, 9999), about(1, oneIn(4) ? 20 : 3));
            case 10: case 11:
                return compare("mark");
            case 12: case 13:
                return oneIn(2) ? compare("back") : compare("turnsLeft");
            default:
                return null;
        }
    }

    private String compare(String name, long... a) {
        long got = call(name, a);
        long want = model.call(name, a);
        log.add(name + java.util.Arrays.toString(a) + " -> " + got + " status " + x.status());
        if (got != want) {
            return name + java.util.Arrays.toString(a) + " answered " + got + ", the model " + want;
        }
        if (x.status() != model.status) {
            return name + java.util.Arrays.toString(a) + " has STATUS " + x.status() + ", the model " + model.status;
        }
        if (x.top() != model.call("top") || x.bottom() != model.call("bottom")) {
            return name + " told " + x.top() + " by " + x.bottom() + ", the model " + model.top + " by "
                    + model.bottom;
        }
        return null;
    }

    private static long of(boolean b) {
        return b ? 1 : 0;
    }

    private long call(String name, long[] a) {
        int[] i = new int[5];
        for (int k = 0; k < a.length; k++) {
            i[k] = (int) a[k];
        }
        switch (name) {
            case "tray": return of(x.tray(i[0], i[1], i[2]));
            case "write": return of(x.write(i[0], i[1], a[2]));
            case "read": return x.read(i[0], i[1]);
            case "pour": return of(x.pour(i[0], i[1], i[2], i[3], i[4]));
            case "feed": return x.feed(i[0], i[1], i[2], i[3], i[4]);
            case "river": return x.river(i[0]);
            case "weeks": return x.weeks(i[0]);
            case "fault": return x.fault(i[0]);
            case "many": return x.many(i[0]);
            case "turnsLeft": return x.turnsLeft();
            case "water": return x.water(i[0]);
            case "reach": return x.reach(i[0], i[1]);
            case "mill": return x.mill(i[0], i[1]);
            case "winder": return x.winder(i[0], i[1]);
            case "copyStored": return x.copyStored(i[0]);
            case "hour": return x.hour(i[0]);
            case "wind": return x.wind(i[0], i[1] == 1);
            case "oil": return x.oil();
            case "gate": return x.gate(i[0], i[1]);
            case "rain": return of(x.rain(i[0] == 1));
            case "bring": return x.bring(i[0], i[1]);
            case "rule": return of(x.rule(i[0], i[1]));
            case "build": return x.build(i[0], i[1]);
            case "train": return of(x.train(i[0], i[1]));
            default: return callLater(name, i);
        }
    }

    private long callLater(String name, int[] i) {
        switch (name) {
            case "turnsIn": return x.turnsIn(i[0]);
            case "storedIn": return x.storedIn(i[0], i[1]);
            case "groundIn": return x.groundIn(i[0], i[1]);
            case "seaIn": return x.seaIn(i[0]);
            case "dryIn": return x.dryIn(i[0]);
            case "floodIn": return x.floodIn(i[0]);
            case "stillIn": return x.stillIn();
            case "lawIn": return x.lawIn();
            case "enough": return x.enough(i[0], i[1], i[2]);
            case "bestGate": return x.bestGate(i[0], i[1]);
            case "bestGround": return x.bestGround(i[0], i[1]);
            case "hire": return x.hire(i[0], i[1]);
            case "hireAt": return x.hireAt(i[0], i[1], i[2]);
            case "wound": return x.wound(i[0], i[1]);
            case "sure": return x.sure(i[0], i[1]);
            case "cheapest": return x.cheapest(i[0], i[1]);
            case "game": return x.game(i[0], i[1], i[2]);
            case "moveOf": return x.moveOf(i[0], i[1], i[2]);
            case "share": return of(x.share(i[0]));
            case "price": return of(x.price(i[0]));
            case "wet": return of(x.wet(i[0], i[1]));
            case "live": return x.live(i[0]);
            case "lived": return x.lived(i[0]);
            case "mean": return of(x.mean(i[0], i[1]));
            case "mark": return x.mark();
            case "back": return x.back();
            default: throw new IllegalArgumentException(name);
        }
    }
}
