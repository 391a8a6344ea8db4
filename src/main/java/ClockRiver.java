/** A river that runs by clockwork; ../shared/DOC.md tells, promise by promise, what each call answers. */
public final class ClockRiver {
    public static final int NONE = -1;

    private static final int NO_TRAY = 1;
    private static final int NO_THING = 2;
    private static final int TRAY_MISSING = 3;
    private static final int NO_PLACE = 4;
    private static final int BAD_NUMBER = 5;
    private static final int BELOW_ZERO = 6;
    private static final int TOO_MANY = 7;
    private static final int THERE_IS_NONE = 8;
    private static final int CANNOT_BE = 9;
    private static final int FAULTY = 10;
    private static final int UNLIKE_SORTS = 11;

    private static final int TRAYS = 4;
    private static final int SORTS = 4;
    private static final int LONGEST_TRAY = 60;
    private static final int LONGEST_RIVER = 900;
    private static final int LONGEST_WEEKS = 300;
    private static final int BYTES_FED = 20;

    private static final int MOST = 6;
    private static final int MOST_MARKS = 3;
    private static final int MOST_TURNS = 60;
    private static final int MOST_SLACK = 9;
    private static final int MOST_RAIN = 99;
    private static final int SIXTEENTHS = 16;
    private static final int MOST_WATER = 999;
    private static final int WIDEST_GATE = 99;
    private static final int MOST_NEEDS = 99;
    private static final int MOST_STRENGTH = 40;
    private static final int MOST_WAGE = 99;
    private static final int OIL_HOURS = 12;
    private static final int LAST_HOUR = 9999;
    private static final int DAY_HOURS = 24;
    private static final int WEEK_DAYS = 7;

    private static final int LONGEST_STAY = 168;
    private static final int FARTHEST = 500;
    private static final int MOST_ENOUGH_HOURS = 100;
    private static final int MOST_GATE_HOURS = 48;
    private static final int MOST_SPELLS = 4;
    private static final int SPELL_HOURS = 4;
    private static final int MOST_HIRE_GROUND = 999;
    private static final int NOBODY = 6;
    private static final int MOST_GAME_TURNS = 4;
    private static final int MOST_WET_HOURS = 12;
    private static final int LAST_SEED = 9999;
    private static final int MOST_SEEDS = 20;

    private static final int TO_SEA = 0;
    private static final int FROM_SEA = 1;
    private static final int LOST = 2;
    private static final int FLOODED = 3;
    private static final int FROM_SPRING = 4;
    private static final int BY_RAIN = 5;
    private static final int WATERS = 6;

    private static final int RULE_SLACK = 3;
    private static final int RULE_RAIN = 4;
    private static final int RULE_ODDS = 5;

    private static final int OPEN_WIDE = 0;
    private static final int CLOSE = 1;
    private static final int LEAVE = 2;

    private static final int FAULT_TOKEN = 1;
    private static final int FAULT_PLACE = 2;
    private static final int FAULT_NAME = 3;
    private static final int FAULT_NUMBER = 4;
    private static final int FAULT_TOLD = 5;
    private static final int FAULT_MANY = 6;
    private static final int FAULT_DEPTH = 7;

    /** The words that no NAME may be, each with a blank behind it; the numbers below follow this order. */
    private static final String WORDS = "turns slack rain odds reach bank gate holds mill at needs winder strength wage hour wind back oil dry any when stored ground raining loop end stop ";
    private static final int W_TURNS = 0;
    private static final int W_SLACK = 1;
    private static final int W_RAIN = 2;
    private static final int W_ODDS = 3;
    private static final int W_REACH = 4;
    private static final int W_BANK = 5;
    private static final int W_GATE = 6;
    private static final int W_HOLDS = 7;
    private static final int W_MILL = 8;
    private static final int W_AT = 9;
    private static final int W_NEEDS = 10;
    private static final int W_WINDER = 11;
    private static final int W_STRENGTH = 12;
    private static final int W_WAGE = 13;
    private static final int W_HOUR = 14;
    private static final int W_WIND = 15;
    private static final int W_BACK = 16;
    private static final int W_OIL = 17;
    private static final int W_DRY = 18;
    private static final int W_ANY = 19;
    private static final int W_WHEN = 20;
    private static final int W_STORED = 21;
    private static final int W_GROUND = 22;
    private static final int W_RAINING = 23;
    private static final int W_LOOP = 24;
    private static final int W_END = 25;
    private static final int W_STOP = 26;

    /** What else than such a word a TOKEN is. */
    private static final int NAME = 27;
    private static final int LONG_WORD = 28;
    private static final int NUMBER = 29;
    private static final int SIGN = 30;
    private static final int NO_TOKEN = 31;
    private static final int AT_END = 32;

    private int latestStatus;
    private long latestTop;
    private long latestBottom;
    private int marks;
    private final River now;
    private final Weeks plan;
    private final Trays trays;
    private final Tape tape;
    private final RiverReader riverReader;
    private final WeeksReader weeksReader;
    private final River[] markedRivers;
    private final Weeks[] markedPlans;
    private final Ahead ahead;
    private final Life latestLife;
    private final Life trialLife;

    public ClockRiver() {
        latestBottom = 1;
        now = new River();
        plan = new Weeks();
        trays = new Trays();
        tape = new Tape();
        riverReader = new RiverReader();
        weeksReader = new WeeksReader();
        markedRivers = new River[MOST_MARKS];
        markedPlans = new Weeks[MOST_MARKS];
        for (int i = 0; i < MOST_MARKS; i++) {
            markedRivers[i] = new River();
            markedPlans[i] = new Weeks();
        }
        ahead = new Ahead();
        latestLife = new Life();
        trialLife = new Life();
    }

    public int status() {
        return latestStatus;
    }

    public long top() {
        return latestTop;
    }

    public long bottom() {
        return latestBottom;
    }

    // ---- TRAYS

    public boolean tray(int tray, int sort, int many) {
        if (!Trays.isTray(tray) || sort < 0 || sort >= SORTS) {
            return deny(NO_TRAY);
        }
        if (many > LONGEST_TRAY) {
            return deny(BAD_NUMBER);
        }
        if (many < 0) {
            return deny(BELOW_ZERO);
        }
        trays.renew(tray, sort, many);
        return grant();
    }

    public boolean write(int tray, int place, long v) {
        int why = trays.whyNoPlace(tray, place);
        if (why != 0) {
            return deny(why);
        }
        trays.put(tray, place, v);
        return grant();
    }

    public long read(int tray, int place) {
        int why = trays.whyNoPlace(tray, place);
        if (why != 0) {
            return refuse(why);
        }
        latestStatus = 0;
        return trays.rows[tray][place];
    }

    public boolean pour(int tray, int i, int to, int j, int many) {
        if (!Trays.isTray(tray) || !Trays.isTray(to)) {
            return deny(NO_TRAY);
        }
        if (trays.isMissing(tray) || trays.isMissing(to)) {
            return deny(TRAY_MISSING);
        }
        if (trays.sorts[tray] != trays.sorts[to]) {
            return deny(UNLIKE_SORTS);
        }
        if (many < 0) {
            return deny(BELOW_ZERO);
        }
        if (!trays.hasRoom(tray, i, many) || !trays.hasRoom(to, j, many)) {
            return deny(NO_PLACE);
        }
        System.arraycopy(trays.rows[tray], i, trays.rows[to], j, many);
        return grant();
    }

    // ---- texts

    public int feed(int a, int b, int c, int d, int e) {
        if (tape.fed + BYTES_FED > LONGEST_RIVER) {
            return NONE;
        }
        tape.append(a);
        tape.append(b);
        tape.append(c);
        tape.append(d);
        tape.append(e);
        return tape.fed;
    }

    public int river(int n) {
        if (n < 0 || n > tape.fed) {
            return refuse(BAD_NUMBER);
        }
        tape.begin(n);
        River told = ahead.spare();
        if (!riverReader.readInto(tape, told)) {
            return refuse(FAULTY);
        }
        now.copyFrom(told);
        plan.forget();
        return give(now.reaches.count);
    }

    public int weeks(int n) {
        if (n < 0 || n > LONGEST_WEEKS || n > tape.fed) {
            return refuse(BAD_NUMBER);
        }
        tape.begin(n);
        if (!weeksReader.readFor(tape, now)) {
            return refuse(FAULTY);
        }
        plan.copyFrom(weeksReader.told);
        return give(plan.steps);
    }

    public int fault(int what) {
        switch (what) {
            case 0:
                return tape.fault;
            case 1:
                return tape.faultPlace;
            default:
                return NONE;
        }
    }

    public int many(int what) {
        if (what < 0 || what > 12) {
            return refuse(BAD_NUMBER);
        }
        return give(now.figure(what));
    }

    public int turnsLeft() {
        return give(now.turns);
    }

    public long water(int what) {
        if (what < 0 || what >= WATERS) {
            return refuse(BAD_NUMBER);
        }
        latestStatus = 0;
        return now.waters[what];
    }

    public int reach(int reach, int what) {
        if (!now.hasReach(reach)) {
            return refuse(NO_THING);
        }
        switch (what) {
            case 0:
                return give(now.reaches.bank[reach]);
            case 1:
                return give(now.reaches.gate[reach]);
            case 2:
                return give(now.reaches.holds[reach]);
            case 3:
                return give(Math.min(now.reaches.holds[reach], now.reaches.gate[reach]));
            case 4:
                return give(now.mills.countAt(reach));
            default:
                return refuse(BAD_NUMBER);
        }
    }

    public int mill(int mill, int what) {
        if (!now.hasMill(mill)) {
            return refuse(NO_THING);
        }
        switch (what) {
            case 0:
                return give(now.mills.at[mill]);
            case 1:
                return give(now.mills.needs[mill]);
            case 2:
                return give(now.mills.ground[mill]);
            default:
                return refuse(BAD_NUMBER);
        }
    }

    public int winder(int winder, int what) {
        if (!now.hasWinder(winder)) {
            return refuse(NO_THING);
        }
        switch (what) {
            case 0:
                return give(now.winders.strength[winder]);
            case 1:
                return give(now.winders.wage[winder]);
            case 2:
                return give(now.winders.times[winder]);
            case 3:
                return give(now.winders.had[winder]);
            default:
                return refuse(BAD_NUMBER);
        }
    }

    public int copyStored(int tray) {
        if (!Trays.isTray(tray)) {
            return refuse(NO_TRAY);
        }
        if (trays.isMissing(tray)) {
            return refuse(TRAY_MISSING);
        }
        int count = now.reaches.count;
        if (count > trays.lengths[tray]) {
            return refuse(NO_PLACE);
        }
        for (int i = 0; i < count; i++) {
            trays.put(tray, i, now.reaches.holds[i]);
        }
        return give(count);
    }

    // ---- what is done

    public int hour(int hours) {
        if (hours < 1 || hours > LONGEST_STAY) {
            return refuse(BAD_NUMBER);
        }
        if (!now.hasHours(hours)) {
            return refuse(TOO_MANY);
        }
        return give(now.passHours(hours));
    }

    public int wind(int winder, boolean backward) {
        if (!now.hasWinder(winder)) {
            return refuse(NO_THING);
        }
        if (now.isLawDay()) {
            return refuse(CANNOT_BE);
        }
        now.letWind(winder, backward);
        return give(now.turns);
    }

    public int oil() {
        now.oiled = OIL_HOURS;
        return give(now.oiled);
    }

    public int gate(int reach, int much) {
        if (!now.hasReach(reach)) {
            return refuse(NO_THING);
        }
        if (much < 0 || much > WIDEST_GATE) {
            return refuse(BAD_NUMBER);
        }
        int old = now.reaches.gate[reach];
        if (old == much) {
            return refuse(CANNOT_BE);
        }
        now.reaches.gate[reach] = much;
        return give(old);
    }

    public boolean rain(boolean is) {
        if (now.raining == is) {
            return deny(CANNOT_BE);
        }
        now.raining = is;
        return grant();
    }

    public int bring(int reach, int much) {
        if (!now.hasReach(reach)) {
            return refuse(NO_THING);
        }
        if (much == 0 || much > MOST_WATER || much < -MOST_WATER) {
            return refuse(BAD_NUMBER);
        }
        if (now.reaches.holds[reach] + much < 0) {
            return refuse(CANNOT_BE);
        }
        now.reaches.holds[reach] += much;
        // no other REACH is above its BANK
        now.waters[FLOODED] += now.reaches.spill();
        return give(now.reaches.holds[reach]);
    }

    public boolean rule(int what, int much) {
        if (much < 0 || much > mostOfRule(what)) {
            return deny(BAD_NUMBER);
        }
        if (what == RULE_SLACK) {
            now.slack = much;
        } else if (what == RULE_RAIN) {
            now.rainfall = much;
        } else {
            now.odds = much;
        }
        return grant();
    }

    public int build(int reach, int needs) {
        if (!now.hasReach(reach)) {
            return refuse(NO_THING);
        }
        if (needs < 1 || needs > MOST_NEEDS) {
            return refuse(BAD_NUMBER);
        }
        if (now.mills.count >= MOST) {
            return refuse(TOO_MANY);
        }
        now.mills.add(Tape.NO_NAME, reach, needs);
        return give(now.mills.count - 1);
    }

    public boolean train(int winder, int strength) {
        if (!now.hasWinder(winder)) {
            return deny(NO_THING);
        }
        if (strength < 1 || strength > MOST_STRENGTH) {
            return deny(BAD_NUMBER);
        }
        now.winders.strength[winder] = strength;
        return grant();
    }

    // ---- HOURS ahead

    public int turnsIn(int hours) {
        if (isTooFar(hours)) {
            return refuse(BAD_NUMBER);
        }
        return give(ahead.later(now, hours).turns);
    }

    public int storedIn(int reach, int hours) {
        if (!now.hasReach(reach)) {
            return refuse(NO_THING);
        }
        if (isTooFar(hours)) {
            return refuse(BAD_NUMBER);
        }
        return give(ahead.later(now, hours).reaches.holds[reach]);
    }

    public int groundIn(int mill, int hours) {
        if (!now.hasMill(mill)) {
            return refuse(NO_THING);
        }
        if (isTooFar(hours)) {
            return refuse(BAD_NUMBER);
        }
        return give(ahead.later(now, hours).mills.ground[mill] - now.mills.ground[mill]);
    }

    public long seaIn(int hours) {
        if (isTooFar(hours)) {
            return refuse(BAD_NUMBER);
        }
        latestStatus = 0;
        return ahead.later(now, hours).waters[TO_SEA] - now.waters[TO_SEA];
    }

    public int dryIn(int reach) {
        if (!now.hasReach(reach)) {
            return refuse(NO_THING);
        }
        return giveIfAny(ahead.hoursTillDry(now, reach));
    }

    public int floodIn(int reach) {
        if (!now.hasReach(reach)) {
            return refuse(NO_THING);
        }
        return giveIfAny(ahead.hoursTillFlood(now, reach));
    }

    public int stillIn() {
        return giveIfAny(ahead.hoursTillStill(now));
    }

    public int lawIn() {
        return give(now.isLawDay() ? DAY_HOURS - now.hour % DAY_HOURS : 0);
    }

    // ---- what is best

    public int enough(int mill, int n, int k) {
        if (!now.hasMill(mill)) {
            return refuse(NO_THING);
        }
        if (n < 0 || n > MOST_ENOUGH_HOURS || k < 0 || k > n) {
            return refuse(BAD_NUMBER);
        }
        return giveIfAny(ahead.leastTurns(now, mill, n, k));
    }

    public int bestGate(int reach, int n) {
        int why = whyNoGate(reach, n);
        if (why != 0) {
            return refuse(why);
        }
        ahead.findGate(now, reach, n);
        return give(ahead.bestWidth);
    }

    public int bestGround(int reach, int n) {
        int why = whyNoGate(reach, n);
        if (why != 0) {
            return refuse(why);
        }
        ahead.findGate(now, reach, n);
        return give(ahead.mostGround);
    }

    public int hire(int spells, int ground) {
        if (isNoHire(spells, ground)) {
            return refuse(BAD_NUMBER);
        }
        return giveIfAny(ahead.hireFor(now, spells, ground));
    }

    public int hireAt(int spells, int ground, int k) {
        if (isNoHire(spells, ground) || k < 0 || k >= spells) {
            return refuse(BAD_NUMBER);
        }
        if (ahead.hireFor(now, spells, ground) == NONE) {
            return refuse(THERE_IS_NONE);
        }
        return give(ahead.bestHands[k]);
    }

    // ---- who wound

    public int wound(int from, int to) {
        if (isNoSpring(from) || isNoSpring(to)) {
            return refuse(BAD_NUMBER);
        }
        int sets = 0;
        for (int set = 0; set < now.winders.sets(); set++) {
            if (now.winders.canWind(set, from, to)) {
                sets++;
            }
        }
        return give(sets);
    }

    public int sure(int from, int to) {
        if (isNoSpring(from) || isNoSpring(to)) {
            return refuse(BAD_NUMBER);
        }
        int inAll = NONE;
        for (int set = 0; set < now.winders.sets(); set++) {
            if (now.winders.canWind(set, from, to)) {
                inAll = inAll == NONE ? set : inAll & set;
            }
        }
        return giveIfAny(inAll);
    }

    public int cheapest(int from, int to) {
        if (isNoSpring(from) || isNoSpring(to)) {
            return refuse(BAD_NUMBER);
        }
        int least = NONE;
        for (int set = 0; set < now.winders.sets(); set++) {
            if (now.winders.canWind(set, from, to)) {
                int wages = now.winders.wagesOf(set);
                least = least == NONE ? wages : Math.min(least, wages);
            }
        }
        return giveIfAny(least);
    }

    // ---- two mills, shares, rain

    public int game(int mill, int other, int turns) {
        if (!now.hasMill(mill) || !now.hasMill(other)) {
            return refuse(NO_THING);
        }
        if (mill == other || turns < 0 || turns > MOST_GAME_TURNS) {
            return refuse(BAD_NUMBER);
        }
        return give(ahead.bestLead(now, mill, other, turns));
    }

    public int moveOf(int mill, int other, int turns) {
        if (!now.hasMill(mill) || !now.hasMill(other)) {
            return refuse(NO_THING);
        }
        if (mill == other || turns < 1 || turns > MOST_GAME_TURNS) {
            return refuse(BAD_NUMBER);
        }
        ahead.bestLead(now, mill, other, turns);
        return give(ahead.firstMove);
    }

    public boolean share(int mill) {
        if (!now.hasMill(mill)) {
            return deny(NO_THING);
        }
        int all = now.mills.allGround();
        if (all == 0) {
            return deny(THERE_IS_NONE);
        }
        tellFraction(now.mills.ground[mill], all);
        return grant();
    }

    public boolean price(int winder) {
        if (!now.hasWinder(winder)) {
            return deny(NO_THING);
        }
        tellFraction(now.winders.wage[winder], now.winders.strength[winder]);
        return grant();
    }

    public boolean wet(int n, int k) {
        if (n < 0 || n > MOST_WET_HOURS || k < 0 || k > MOST_WET_HOURS) {
            return deny(BAD_NUMBER);
        }
        long ways = 0;
        long all = 1;
        for (int i = 0; i < n; i++) {
            all *= SIXTEENTHS;
        }
        for (int wetHours = k; wetHours <= n; wetHours++) {
            ways += waysToRain(n, wetHours);
        }
        tellFraction(ways, all);
        return grant();
    }

    // ---- WEEKS

    public int live(int seed) {
        if (seed < 0 || seed > LAST_SEED) {
            return refuse(BAD_NUMBER);
        }
        if (!plan.isThere) {
            return refuse(THERE_IS_NONE);
        }
        latestLife.run(now, plan, seed);
        return give(latestLife.steps);
    }

    public int lived(int what) {
        if (what < 0 || what > 4) {
            return refuse(BAD_NUMBER);
        }
        if (!latestLife.wasRun) {
            return refuse(THERE_IS_NONE);
        }
        return give(latestLife.figure(what));
    }

    public boolean mean(int seed, int many) {
        if (seed < 0 || seed > LAST_SEED || many < 1 || many > MOST_SEEDS || seed + many - 1 > LAST_SEED) {
            return deny(BAD_NUMBER);
        }
        if (!plan.isThere) {
            return deny(THERE_IS_NONE);
        }
        long sum = 0;
        for (int i = 0; i < many; i++) {
            River trial = ahead.copyOf(now);
            trialLife.run(trial, plan, seed + i);
            sum += trial.mills.allGround();
        }
        tellFraction(sum, many);
        return grant();
    }

    // ---- MARKS

    public int mark() {
        if (marks >= MOST_MARKS) {
            return refuse(TOO_MANY);
        }
        markedRivers[marks].copyFrom(now);
        markedPlans[marks].copyFrom(plan);
        marks++;
        return give(marks);
    }

    public int back() {
        if (marks <= 0) {
            return refuse(THERE_IS_NONE);
        }
        marks--;
        now.copyFrom(markedRivers[marks]);
        plan.copyFrom(markedPlans[marks]);
        return give(marks);
    }

    // ---- how calls answer

    private int give(int answer) {
        latestStatus = 0;
        return answer;
    }

    private int giveIfAny(int answer) {
        return answer == NONE ? refuse(THERE_IS_NONE) : give(answer);
    }

    private int refuse(int why) {
        latestStatus = why;
        return NONE;
    }

    private boolean grant() {
        latestStatus = 0;
        return true;
    }

    private boolean deny(int why) {
        latestStatus = why;
        return false;
    }

    /** Callers have a bottom above 0 and a top that is not below 0, so that no divisor is below 1. */
    private void tellFraction(long top, long bottom) {
        long divisor = Math.max(1, commonDivisor(top, bottom));
        latestTop = top / divisor;
        latestBottom = bottom / divisor;
    }

    private static long commonDivisor(long a, long b) {
        long x = a;
        long y = b;
        // Euclid's steps for 64 bits stay under 100
        for (int i = 0; i < 200 && y != 0; i++) {
            long rest = x % y;
            x = y;
            y = rest;
        }
        return x;
    }

    // ---- what may be asked

    private static boolean isTooFar(int hours) {
        return hours < 0 || hours > FARTHEST;
    }

    private static boolean isNoHire(int spells, int ground) {
        return spells < 1 || spells > MOST_SPELLS || ground < 0 || ground > MOST_HIRE_GROUND;
    }

    private static boolean isNoSpring(int turns) {
        return turns < 0 || turns > MOST_TURNS;
    }

    private int whyNoGate(int reach, int n) {
        if (!now.hasReach(reach)) {
            return NO_THING;
        }
        return n < 0 || n > MOST_GATE_HOURS ? BAD_NUMBER : 0;
    }

    private static int mostOfRule(int what) {
        switch (what) {
            case RULE_SLACK:
                return MOST_SLACK;
            case RULE_RAIN:
                return MOST_RAIN;
            case RULE_ODDS:
                return SIXTEENTHS;
            default:
                return NONE;
        }
    }

    /** In how many of the 16 to the n ways it rains in just so many of n HOURS. */
    private long waysToRain(int n, int wetHours) {
        long ways = 1;
        for (int i = 0; i < wetHours; i++) {
            // each product of i + 1 numbers in a row can be divided by i + 1
            ways = ways * (n - i) / (i + 1);
        }
        for (int i = 0; i < n; i++) {
            ways *= i < wetHours ? now.odds : SIXTEENTHS - now.odds;
        }
        return ways;
    }

    private static final class Trays {
        final long[][] rows = new long[TRAYS][LONGEST_TRAY];
        final int[] sorts = new int[TRAYS];
        /** NONE for a TRAY that is MISSING. */
        final int[] lengths = {NONE, NONE, NONE, NONE};

        static boolean isTray(int tray) {
            return tray >= 0 && tray < TRAYS;
        }

        boolean isMissing(int tray) {
            return lengths[tray] == NONE;
        }

        int whyNoPlace(int tray, int place) {
            if (!isTray(tray)) {
                return NO_TRAY;
            }
            if (isMissing(tray)) {
                return TRAY_MISSING;
            }
            return place < 0 || place >= lengths[tray] ? NO_PLACE : 0;
        }

        /** Of no numbers at all the place may be just behind the last, as nothing is touched there. */
        boolean hasRoom(int tray, int place, int many) {
            return place >= 0 && (long) place + many <= lengths[tray];
        }

        void renew(int tray, int sort, int many) {
            sorts[tray] = sort;
            lengths[tray] = many;
            for (int i = 0; i < many; i++) {
                rows[tray][i] = 0;
            }
        }

        void put(int tray, int place, long v) {
            rows[tray][place] = cut(sorts[tray], v);
        }

        private static long cut(int sort, long v) {
            switch (sort) {
                case 0:
                    return (byte) v;
                case 1:
                    return (short) v;
                case 2:
                    return (int) v;
                default:
                    return v;
            }
        }
    }

    /** The bytes fed so far, and the TOKENS of the text that is read. */
    private static final class Tape {
        static final long NO_NAME = 0;
        private static final int LONGEST_NAME = 8;
        private static final int LONGEST_NUMBER = 4;

        final byte[] bytes = new byte[LONGEST_RIVER];
        int fed;
        int fault = NONE;
        int faultPlace = NONE;
        /** Of the TOKEN that is looked at: a WORD's number in WORDS, or what else it is. */
        int kind;
        /** A NAME's letters as one number, a NUMBER, a SIGN. */
        long value;
        /** The NUMBER that was taken latest. */
        int taken;
        private int at;
        private int tokens;
        /** A TOKEN has a byte at least, and the text's end is one more. */
        private final int[] kinds = new int[LONGEST_RIVER + 1];
        private final int[] starts = new int[LONGEST_RIVER + 1];
        private final long[] values = new long[LONGEST_RIVER + 1];

        void append(int four) {
            for (int shift = 24; shift >= 0 && fed < LONGEST_RIVER; shift -= 8) {
                bytes[fed] = (byte) (four >> shift);
                fed++;
            }
        }

        /** Takes the first n bytes for a text, looks at its first TOKEN; the tape is empty then. */
        void begin(int n) {
            int length = Math.min(n, fed);
            int place = 0;
            tokens = 0;
            for (int i = 0; i <= length && place <= length; i++) {
                place = addToken(place, length);
            }
            fed = 0;
            fault = 0;
            faultPlace = NONE;
            at = 0;
            kind = kinds[0];
            value = values[0];
        }

        void advance() {
            if (at < tokens - 1) {
                at++;
                kind = kinds[at];
                value = values[at];
            }
        }

        boolean fail(int why) {
            fault = why;
            faultPlace = starts[at];
            return false;
        }

        boolean failToStand() {
            return fail(kind == NO_TOKEN ? FAULT_TOKEN : FAULT_PLACE);
        }

        boolean takeWord(int wanted) {
            if (kind != wanted) {
                return failToStand();
            }
            advance();
            return true;
        }

        boolean takeEnd() {
            if (kind != SIGN || value != ';') {
                return failToStand();
            }
            advance();
            return true;
        }

        boolean takeNumber(int least, int most) {
            if (kind != NUMBER) {
                return failToStand();
            }
            if (value < least || value > most) {
                return fail(FAULT_NUMBER);
            }
            taken = (int) value;
            advance();
            return true;
        }

        /** The place behind the TOKEN; beyond the length behind the last one, as what follows NO_TOKEN is never read. */
        private int addToken(int from, int length) {
            int start = from;
            while (start < length && isBlank(bytes[start])) {
                start++;
            }
            starts[tokens] = start;
            values[tokens] = 0;
            int end = length + 1;
            if (start >= length) {
                kinds[tokens] = AT_END;
            } else if (isLetter(bytes[start])) {
                end = addWord(start, length);
            } else if (isDigit(bytes[start])) {
                end = addNumber(start, length);
            } else {
                end = addSign(start, length);
            }
            tokens++;
            return end;
        }

        private int addWord(int start, int length) {
            int end = start;
            while (end < length && isLetter(bytes[end])) {
                end++;
            }
            kinds[tokens] = kindOfWord(start, end);
            if (end - start <= LONGEST_NAME) {
                for (int i = start; i < end; i++) {
                    values[tokens] = values[tokens] * 256 + bytes[i];
                }
            }
            return end;
        }

        private int kindOfWord(int start, int end) {
            if (end - start > LONGEST_NAME) {
                return LONG_WORD;
            }
            int number = 0;
            int from = 0;
            for (int i = 0; i < WORDS.length(); i++) {
                if (WORDS.charAt(i) == ' ') {
                    if (i - from == end - start && isLike(start, end, from)) {
                        return number;
                    }
                    number++;
                    from = i + 1;
                }
            }
            return NAME;
        }

        private boolean isLike(int start, int end, int from) {
            for (int i = start; i < end; i++) {
                if (bytes[i] != WORDS.charAt(from + i - start)) {
                    return false;
                }
            }
            return true;
        }

        private int addNumber(int start, int length) {
            int end = start;
            while (end < length && isDigit(bytes[end])) {
                if (end - start < LONGEST_NUMBER) {
                    values[tokens] = values[tokens] * 10 + bytes[end] - '0';
                }
                end++;
            }
            boolean fits = end - start <= LONGEST_NUMBER;
            kinds[tokens] = fits ? NUMBER : NO_TOKEN;
            return fits ? end : length + 1;
        }

        private int addSign(int start, int length) {
            int sign = bytes[start];
            boolean isSign = sign == ';' || sign == '<' || sign == '>' || sign == '=';
            kinds[tokens] = isSign ? SIGN : NO_TOKEN;
            values[tokens] = sign;
            return isSign ? start + 1 : length + 1;
        }

        private static boolean isBlank(int b) {
            return b == 10 || b == 32;
        }

        private static boolean isLetter(int b) {
            return b >= 'a' && b <= 'z';
        }

        private static boolean isDigit(int b) {
            return b >= '0' && b <= '9';
        }
    }

    /** A RIVER with all that became of it. */
    private static final class River {
        int turns;
        int slack = 1;
        int rainfall = 5;
        int odds = 4;
        int hour;
        int oiled;
        boolean raining;
        final long[] waters = new long[WATERS];
        final Reaches reaches = new Reaches();
        final Mills mills = new Mills();
        final Winders winders = new Winders();

        void clear() {
            turns = 0;
            slack = 1;
            rainfall = 5;
            odds = 4;
            hour = 0;
            oiled = 0;
            raining = false;
            for (int i = 0; i < WATERS; i++) {
                waters[i] = 0;
            }
            reaches.count = 0;
            mills.count = 0;
            winders.count = 0;
        }

        void copyFrom(River other) {
            turns = other.turns;
            slack = other.slack;
            rainfall = other.rainfall;
            odds = other.odds;
            hour = other.hour;
            oiled = other.oiled;
            raining = other.raining;
            System.arraycopy(other.waters, 0, waters, 0, WATERS);
            reaches.copyFrom(other.reaches);
            mills.copyFrom(other.mills);
            winders.copyFrom(other.winders);
        }

        boolean hasReach(int reach) {
            return reach >= 0 && reach < reaches.count;
        }

        boolean hasMill(int mill) {
            return mill >= 0 && mill < mills.count;
        }

        boolean hasWinder(int winder) {
            return winder >= 0 && winder < winders.count;
        }

        boolean hasHours(int hours) {
            return hour + hours <= LAST_HOUR;
        }

        boolean isLawDay() {
            return hour / DAY_HOURS % WEEK_DAYS == WEEK_DAYS - 1;
        }

        boolean isTaken(long name) {
            return placeOf(name, reaches.name, reaches.count) != NONE
                    || placeOf(name, mills.name, mills.count) != NONE
                    || placeOf(name, winders.name, winders.count) != NONE;
        }

        static int placeOf(long name, long[] names, int count) {
            for (int i = 0; i < count; i++) {
                if (names[i] == name) {
                    return i;
                }
            }
            return NONE;
        }

        int figure(int what) {
            switch (what) {
                case 0:
                    return reaches.count;
                case 1:
                    return mills.count;
                case 2:
                    return winders.count;
                case RULE_SLACK:
                    return slack;
                case RULE_RAIN:
                    return rainfall;
                case RULE_ODDS:
                    return odds;
                case 6:
                    return hour;
                case 7:
                    return hour / DAY_HOURS;
                case 8:
                    return raining ? 1 : 0;
                case 9:
                    return oiled;
                case 10:
                    return reaches.allHeld();
                case 11:
                    return winders.allHad();
                default:
                    return mills.allGround();
            }
        }

        void letWind(int winder, boolean backward) {
            int strength = winders.strength[winder];
            turns = backward ? Math.max(-MOST_TURNS, turns - strength) : Math.min(MOST_TURNS, turns + strength);
            winders.pay(winder);
        }

        /** How often MILLS ground in these HOURS. */
        int passHours(int hours) {
            int ground = 0;
            for (int i = 0; i < hours; i++) {
                ground += passHour();
            }
            return ground;
        }

        int passHour() {
            reaches.letPass();
            if (turns >= 0) {
                runDown();
            } else {
                runUp();
            }
            if (raining) {
                reaches.addEach(rainfall);
                waters[BY_RAIN] += rainfall * reaches.count;
            }
            waters[FLOODED] += reaches.spill();
            int ground = mills.grind(reaches.passed);
            slacken();
            hour++;
            return ground;
        }

        private void runDown() {
            int carried = turns;
            waters[FROM_SPRING] += turns;
            for (int i = 0; i < reaches.count; i++) {
                reaches.holds[i] += carried - reaches.passed[i];
                carried = reaches.passed[i];
            }
            waters[TO_SEA] += carried;
        }

        private void runUp() {
            int carried = -turns;
            waters[FROM_SEA] -= turns;
            for (int i = reaches.count - 1; i >= 0; i--) {
                reaches.holds[i] += carried - reaches.passed[i];
                carried = reaches.passed[i];
            }
            waters[LOST] += carried;
        }

        private void slacken() {
            int by = oiled > 0 ? (slack + 1) / 2 : slack;
            turns = turns >= 0 ? Math.max(0, turns - by) : Math.min(0, turns + by);
            oiled = Math.max(0, oiled - 1);
        }
    }

    private static final class Reaches {
        int count;
        final long[] name = new long[MOST];
        final int[] bank = new int[MOST];
        final int[] gate = new int[MOST];
        final int[] holds = new int[MOST];
        /** What each let PASS, and what was FLOODED there, in the HOUR that went by latest. */
        final int[] passed = new int[MOST];
        final int[] spilt = new int[MOST];

        void add(long newName, int newBank, int newGate, int newHolds) {
            if (count < MOST) {
                name[count] = newName;
                bank[count] = newBank;
                gate[count] = newGate;
                holds[count] = newHolds;
                count++;
            }
        }

        void copyFrom(Reaches other) {
            count = other.count;
            System.arraycopy(other.name, 0, name, 0, count);
            System.arraycopy(other.bank, 0, bank, 0, count);
            System.arraycopy(other.gate, 0, gate, 0, count);
            System.arraycopy(other.holds, 0, holds, 0, count);
        }

        int allHeld() {
            int sum = 0;
            for (int i = 0; i < count; i++) {
                sum += holds[i];
            }
            return sum;
        }

        void letPass() {
            for (int i = 0; i < count; i++) {
                passed[i] = Math.min(holds[i], gate[i]);
            }
        }

        void addEach(int much) {
            for (int i = 0; i < count; i++) {
                holds[i] += much;
            }
        }

        int spill() {
            int sum = 0;
            for (int i = 0; i < count; i++) {
                spilt[i] = Math.max(0, holds[i] - bank[i]);
                holds[i] -= spilt[i];
                sum += spilt[i];
            }
            return sum;
        }
    }

    private static final class Mills {
        int count;
        final long[] name = new long[MOST];
        final int[] at = new int[MOST];
        final int[] needs = new int[MOST];
        final int[] ground = new int[MOST];

        void add(long newName, int reach, int newNeeds) {
            if (count < MOST) {
                name[count] = newName;
                at[count] = reach;
                needs[count] = newNeeds;
                ground[count] = 0;
                count++;
            }
        }

        void copyFrom(Mills other) {
            count = other.count;
            System.arraycopy(other.name, 0, name, 0, count);
            System.arraycopy(other.at, 0, at, 0, count);
            System.arraycopy(other.needs, 0, needs, 0, count);
            System.arraycopy(other.ground, 0, ground, 0, count);
        }

        int countAt(int reach) {
            int sum = 0;
            for (int i = 0; i < count; i++) {
                if (at[i] == reach) {
                    sum++;
                }
            }
            return sum;
        }

        int allGround() {
            int sum = 0;
            for (int i = 0; i < count; i++) {
                sum += ground[i];
            }
            return sum;
        }

        int grind(int[] passed) {
            int sum = 0;
            for (int i = 0; i < count; i++) {
                if (passed[at[i]] >= needs[i]) {
                    ground[i]++;
                    sum++;
                }
            }
            return sum;
        }
    }

    private static final class Winders {
        int count;
        final long[] name = new long[MOST];
        final int[] strength = new int[MOST];
        final int[] wage = new int[MOST];
        final int[] times = new int[MOST];
        final int[] had = new int[MOST];

        void add(long newName, int newStrength, int newWage) {
            if (count < MOST) {
                name[count] = newName;
                strength[count] = newStrength;
                wage[count] = newWage;
                times[count] = 0;
                had[count] = 0;
                count++;
            }
        }

        void copyFrom(Winders other) {
            count = other.count;
            System.arraycopy(other.name, 0, name, 0, count);
            System.arraycopy(other.strength, 0, strength, 0, count);
            System.arraycopy(other.wage, 0, wage, 0, count);
            System.arraycopy(other.times, 0, times, 0, count);
            System.arraycopy(other.had, 0, had, 0, count);
        }

        void pay(int winder) {
            times[winder]++;
            had[winder] += wage[winder];
        }

        int allHad() {
            int sum = 0;
            for (int i = 0; i < count; i++) {
                sum += had[i];
            }
            return sum;
        }

        int sets() {
            return 1 << count;
        }

        boolean canWind(int set, int from, int to) {
            int turns = from;
            for (int i = 0; i < count; i++) {
                if ((set >> i & 1) == 1) {
                    turns += strength[i];
                }
            }
            return Math.min(MOST_TURNS, turns) == to;
        }

        int wagesOf(int set) {
            int sum = 0;
            for (int i = 0; i < count; i++) {
                if ((set >> i & 1) == 1) {
                    sum += wage[i];
                }
            }
            return sum;
        }
    }

    private static final class RiverReader {
        private Tape tape;
        private River told;
        private long newName;
        private int settingsTold;

        /** Whether the text that the tape has begun is a RIVER; where not, the tape has its FAULT. */
        boolean readInto(Tape from, River into) {
            tape = from;
            told = into;
            settingsTold = 0;
            told.clear();
            // a PART has at least one byte
            for (int i = 0; i < LONGEST_RIVER && tape.kind != AT_END; i++) {
                if (!readPart()) {
                    return false;
                }
            }
            return true;
        }

        private boolean readPart() {
            switch (tape.kind) {
                case W_TURNS:
                    return readSetting(MOST_TURNS);
                case W_SLACK:
                    return readSetting(MOST_SLACK);
                case W_RAIN:
                    return readSetting(MOST_RAIN);
                case W_ODDS:
                    return readSetting(SIXTEENTHS);
                case W_REACH:
                    return readReach();
                case W_MILL:
                    return readMill();
                case W_WINDER:
                    return readWinder();
                default:
                    return tape.failToStand();
            }
        }

        private boolean readSetting(int most) {
            int word = tape.kind;
            if ((settingsTold >> word & 1) == 1) {
                return tape.fail(FAULT_TOLD);
            }
            settingsTold |= 1 << word;
            tape.advance();
            if (!tape.takeNumber(0, most)) {
                return false;
            }
            if (word == W_TURNS) {
                told.turns = tape.taken;
            } else if (word == W_SLACK) {
                told.slack = tape.taken;
            } else if (word == W_RAIN) {
                told.rainfall = tape.taken;
            } else {
                told.odds = tape.taken;
            }
            return tape.takeEnd();
        }

        private boolean readReach() {
            if (told.reaches.count >= MOST) {
                return tape.fail(FAULT_MANY);
            }
            tape.advance();
            if (!takeNewName() || !tape.takeWord(W_BANK) || !tape.takeNumber(0, MOST_WATER)) {
                return false;
            }
            int bank = tape.taken;
            if (!tape.takeWord(W_GATE) || !tape.takeNumber(0, WIDEST_GATE)) {
                return false;
            }
            int gate = tape.taken;
            int holds = 0;
            if (tape.kind == W_HOLDS) {
                tape.advance();
                if (!tape.takeNumber(0, bank)) {
                    return false;
                }
                holds = tape.taken;
            }
            told.reaches.add(newName, bank, gate, holds);
            return tape.takeEnd();
        }

        private boolean readMill() {
            if (told.mills.count >= MOST) {
                return tape.fail(FAULT_MANY);
            }
            tape.advance();
            if (!takeNewName() || !tape.takeWord(W_AT)) {
                return false;
            }
            if (tape.kind != NAME) {
                return tape.failToStand();
            }
            int at = River.placeOf(tape.value, told.reaches.name, told.reaches.count);
            if (at == NONE) {
                return tape.fail(FAULT_NAME);
            }
            tape.advance();
            if (!tape.takeWord(W_NEEDS) || !tape.takeNumber(1, MOST_NEEDS)) {
                return false;
            }
            told.mills.add(newName, at, tape.taken);
            return tape.takeEnd();
        }

        private boolean readWinder() {
            if (told.winders.count >= MOST) {
                return tape.fail(FAULT_MANY);
            }
            tape.advance();
            if (!takeNewName() || !tape.takeWord(W_STRENGTH) || !tape.takeNumber(1, MOST_STRENGTH)) {
                return false;
            }
            int strength = tape.taken;
            int wage = 1;
            if (tape.kind == W_WAGE) {
                tape.advance();
                if (!tape.takeNumber(0, MOST_WAGE)) {
                    return false;
                }
                wage = tape.taken;
            }
            told.winders.add(newName, strength, wage);
            return tape.takeEnd();
        }

        private boolean takeNewName() {
            if (tape.kind != NAME) {
                return tape.failToStand();
            }
            if (told.isTaken(tape.value)) {
                return tape.fail(FAULT_NAME);
            }
            newName = tape.value;
            tape.advance();
            return true;
        }
    }

    /** WEEKS as rows of STEPS, each end among them, as the text has them. */
    private static final class Weeks {
        static final int MOST_STEPS = 30;
        static final int MOST_ROWS = 2 * MOST_STEPS;

        boolean isThere;
        int steps;
        int rows;
        /** The STEP's WORD, or end. */
        final int[] word = new int[MOST_ROWS];
        /** The REACH, MILL or WINDER. */
        final int[] thing = new int[MOST_ROWS];
        final int[] number = new int[MOST_ROWS];
        /** Of a when its TEST's WORD and sign. */
        final int[] test = new int[MOST_ROWS];
        final int[] sign = new int[MOST_ROWS];
        /** Of a when, a loop the row of its end, and of an end that of its beginning. */
        final int[] mate = new int[MOST_ROWS];

        void forget() {
            isThere = false;
            steps = 0;
            rows = 0;
        }

        void copyFrom(Weeks other) {
            isThere = other.isThere;
            steps = other.steps;
            rows = other.rows;
            System.arraycopy(other.word, 0, word, 0, rows);
            System.arraycopy(other.thing, 0, thing, 0, rows);
            System.arraycopy(other.number, 0, number, 0, rows);
            System.arraycopy(other.test, 0, test, 0, rows);
            System.arraycopy(other.sign, 0, sign, 0, rows);
            System.arraycopy(other.mate, 0, mate, 0, rows);
        }

        /** The new row; the reader keeps STEPS at 30 and an end for each at most. */
        int addRow(int newWord) {
            int row = Math.min(rows, MOST_ROWS - 1);
            word[row] = newWord;
            thing[row] = NONE;
            number[row] = 0;
            test[row] = NONE;
            sign[row] = NONE;
            mate[row] = NONE;
            rows = row + 1;
            return row;
        }
    }

    private static final class WeeksReader {
        private static final int DEEPEST = 3;
        private static final int MOST_ROUNDS = 99;

        final Weeks told = new Weeks();
        private Tape tape;
        private River river;
        private int row;
        private int depth;
        private final int[] begun = new int[DEEPEST];

        /** Whether the text that the tape has begun is WEEKS for this RIVER; where not, the tape has its FAULT. */
        boolean readFor(Tape from, River named) {
            tape = from;
            river = named;
            depth = 0;
            told.forget();
            told.isThere = true;
            // a STEP, or an end, has at least one byte
            for (int i = 0; i < LONGEST_WEEKS && tape.kind != AT_END; i++) {
                boolean isBegun = tape.kind == W_END && depth > 0 ? beginEnd() : beginStep();
                if (!isBegun || !readRest() || !tape.takeEnd()) {
                    return false;
                }
            }
            return depth == 0 || tape.failToStand();
        }

        private boolean beginEnd() {
            depth--;
            int beginning = begun[depth];
            row = told.addRow(W_END);
            told.mate[row] = beginning;
            told.mate[beginning] = row;
            tape.advance();
            return true;
        }

        private boolean beginStep() {
            int word = tape.kind;
            if (!isStep(word)) {
                return tape.failToStand();
            }
            if (told.steps >= Weeks.MOST_STEPS) {
                return tape.fail(FAULT_MANY);
            }
            boolean isDeep = word == W_WHEN || word == W_LOOP;
            if (isDeep && depth >= DEEPEST) {
                return tape.fail(FAULT_DEPTH);
            }
            row = told.addRow(word);
            told.steps++;
            if (isDeep) {
                begun[depth] = row;
                depth++;
            }
            tape.advance();
            return true;
        }

        private static boolean isStep(int word) {
            switch (word) {
                case W_HOUR:
                case W_WIND:
                case W_OIL:
                case W_GATE:
                case W_RAIN:
                case W_DRY:
                case W_ANY:
                case W_WHEN:
                case W_LOOP:
                case W_STOP:
                    return true;
                default:
                    return false;
            }
        }

        private boolean readRest() {
            switch (told.word[row]) {
                case W_HOUR:
                    return takeNumber(1, DAY_HOURS);
                case W_WIND:
                    return readWind();
                case W_GATE:
                    return takeName(river.reaches.name, river.reaches.count) && takeNumber(0, WIDEST_GATE);
                case W_WHEN:
                    return readTest();
                case W_LOOP:
                    return takeNumber(1, MOST_ROUNDS);
                default:
                    return true;
            }
        }

        /** Of a wind, the number 1 is for back. */
        private boolean readWind() {
            if (!takeName(river.winders.name, river.winders.count)) {
                return false;
            }
            if (tape.kind == W_BACK) {
                told.number[row] = 1;
                tape.advance();
            }
            return true;
        }

        private boolean readTest() {
            told.test[row] = tape.kind;
            switch (tape.kind) {
                case W_STORED:
                    tape.advance();
                    return takeName(river.reaches.name, river.reaches.count) && takeComparison()
                            && takeNumber(0, MOST_WATER);
                case W_GROUND:
                    tape.advance();
                    return takeName(river.mills.name, river.mills.count) && takeComparison()
                            && takeNumber(0, LAST_HOUR);
                default:
                    return tape.takeWord(W_RAINING);
            }
        }

        private boolean takeName(long[] names, int count) {
            if (tape.kind != NAME) {
                return tape.failToStand();
            }
            int thing = River.placeOf(tape.value, names, count);
            if (thing == NONE) {
                return tape.fail(FAULT_NAME);
            }
            told.thing[row] = thing;
            tape.advance();
            return true;
        }

        private boolean takeComparison() {
            if (tape.kind != SIGN || tape.value == ';') {
                return tape.failToStand();
            }
            told.sign[row] = (int) tape.value;
            tape.advance();
            return true;
        }

        private boolean takeNumber(int least, int most) {
            if (!tape.takeNumber(least, most)) {
                return false;
            }
            told.number[row] = tape.taken;
            return true;
        }
    }

    /** WEEKS lived by a seed, and what is told of them. */
    private static final class Life {
        static final int MOST_DONE = 300;
        /** Far above what 300 STEPS, with at most 99 rounds of nothing behind each, can need. */
        static final int MOST_ROWS_MET = 1000000;

        boolean wasRun;
        int steps;
        private int missed;
        private int hours;
        private int ground;
        private int winds;
        private int left;
        private int seed;
        private River river;
        private Weeks plan;
        private final int[] rounds = new int[Weeks.MOST_ROWS];

        int figure(int what) {
            switch (what) {
                case 0:
                    return missed;
                case 1:
                    return hours;
                case 2:
                    return ground;
                case 3:
                    return winds;
                default:
                    return left;
            }
        }

        void run(River lived, Weeks weeks, int firstSeed) {
            wasRun = true;
            steps = 0;
            missed = 0;
            hours = 0;
            ground = 0;
            winds = 0;
            left = 0;
            seed = firstSeed;
            river = lived;
            plan = weeks;
            int row = 0;
            for (int i = 0; i < MOST_ROWS_MET && row < plan.rows && left == 0; i++) {
                if (plan.word[row] == W_END) {
                    row = rowBehindEnd(row);
                } else if (steps >= MOST_DONE) {
                    left = 1;
                } else {
                    steps++;
                    missed += isDone(row) ? 0 : 1;
                    row = rowBehindStep(row);
                }
            }
        }

        private int rowBehindEnd(int row) {
            int beginning = plan.mate[row];
            if (plan.word[beginning] == W_LOOP) {
                rounds[beginning]--;
                if (rounds[beginning] > 0) {
                    return beginning + 1;
                }
            }
            return row + 1;
        }

        private int rowBehindStep(int row) {
            switch (plan.word[row]) {
                case W_WHEN:
                    return holds(row) ? row + 1 : plan.mate[row];
                case W_LOOP:
                    rounds[row] = plan.number[row];
                    return row + 1;
                case W_STOP:
                    return plan.rows;
                default:
                    return row + 1;
            }
        }

        private boolean holds(int row) {
            switch (plan.test[row]) {
                case W_STORED:
                    return compares(river.reaches.holds[plan.thing[row]], row);
                case W_GROUND:
                    return compares(river.mills.ground[plan.thing[row]], row);
                default:
                    return river.raining;
            }
        }

        private boolean compares(int much, int row) {
            switch (plan.sign[row]) {
                case '<':
                    return much < plan.number[row];
                case '>':
                    return much > plan.number[row];
                default:
                    return much == plan.number[row];
            }
        }

        /** Whether a STEP was done, not MISSED; which STEP is next is told by rowBehindStep(). */
        private boolean isDone(int row) {
            switch (plan.word[row]) {
                case W_HOUR:
                    return waits(plan.number[row]);
                case W_WIND:
                    return winds(plan.thing[row], plan.number[row] == 1);
                case W_OIL:
                    river.oiled = OIL_HOURS;
                    return true;
                case W_GATE:
                    return sets(plan.thing[row], plan.number[row]);
                case W_RAIN:
                    return turnsTo(true);
                case W_DRY:
                    return turnsTo(false);
                case W_ANY:
                    return doesAny();
                default:
                    return true;
            }
        }

        private boolean waits(int much) {
            if (!river.hasHours(much)) {
                return false;
            }
            ground += river.passHours(much);
            hours += much;
            return true;
        }

        private boolean winds(int winder, boolean backward) {
            if (river.isLawDay()) {
                return false;
            }
            river.letWind(winder, backward);
            winds++;
            return true;
        }

        private boolean sets(int reach, int much) {
            if (river.reaches.gate[reach] == much) {
                return false;
            }
            river.reaches.gate[reach] = much;
            return true;
        }

        private boolean turnsTo(boolean rainy) {
            if (river.raining == rainy) {
                return false;
            }
            river.raining = rainy;
            return true;
        }

        private boolean doesAny() {
            int count = river.winders.count;
            if (count <= 0) {
                return false;
            }
            river.raining = drawBy(SIXTEENTHS) < river.odds;
            return winds(drawBy(count), false);
        }

        private int drawBy(int n) {
            seed = (seed * 2971 + 10799) % 65536;
            return n > 0 ? seed / 8 % n : 0;
        }
    }

    /** What lies ahead: tried out on copies, so that the RIVER itself stays. */
    private static final class Ahead {
        /** One copy for each turn of a GAME or spell of a HIRE, and the one that they begin with. */
        final River[] levels = new River[MOST_SPELLS + 1];
        int bestWidth;
        int mostGround;
        int firstMove;
        final int[] bestHands = new int[MOST_SPELLS];
        private final int[] hands = new int[MOST_SPELLS];
        private int spells;
        private int neededGround;
        private int leastWages;
        private int first;
        private int second;
        private int gameTurns;

        Ahead() {
            for (int i = 0; i < levels.length; i++) {
                levels[i] = new River();
            }
        }

        River spare() {
            return levels[0];
        }

        River copyOf(River now) {
            levels[0].copyFrom(now);
            return levels[0];
        }

        River later(River now, int hours) {
            River river = copyOf(now);
            river.passHours(hours);
            return river;
        }

        int hoursTillDry(River now, int reach) {
            River river = copyOf(now);
            for (int i = 0; i <= FARTHEST; i++) {
                if (river.reaches.holds[reach] == 0) {
                    return i;
                }
                river.passHour();
            }
            return NONE;
        }

        int hoursTillFlood(River now, int reach) {
            River river = copyOf(now);
            for (int i = 0; i < FARTHEST; i++) {
                river.passHour();
                if (river.reaches.spilt[reach] > 0) {
                    return i;
                }
            }
            return NONE;
        }

        /** TURNS that slacken at all are 0 within 60 HOURS. */
        int hoursTillStill(River now) {
            River river = copyOf(now);
            for (int i = 0; i <= MOST_TURNS; i++) {
                if (river.turns == 0) {
                    return i;
                }
                river.passHour();
            }
            return NONE;
        }

        int leastTurns(River now, int mill, int n, int k) {
            for (int turns = 0; turns <= MOST_TURNS; turns++) {
                River river = copyOf(now);
                river.turns = turns;
                river.passHours(n);
                if (river.mills.ground[mill] - now.mills.ground[mill] >= k) {
                    return turns;
                }
            }
            return NONE;
        }

        void findGate(River now, int reach, int n) {
            mostGround = NONE;
            for (int width = 0; width <= WIDEST_GATE; width++) {
                River river = copyOf(now);
                river.reaches.gate[reach] = width;
                int ground = river.passHours(n);
                if (ground > mostGround) {
                    mostGround = ground;
                    bestWidth = width;
                }
            }
        }

        /** NONE where no way grinds enough. */
        int hireFor(River now, int manySpells, int ground) {
            spells = Math.min(manySpells, MOST_SPELLS);
            neededGround = ground;
            leastWages = NONE;
            copyOf(now);
            tryHands(0, 0, 0);
            return leastWages;
        }

        /** Goes by the ways in the order that the document gives them, so that of equal wages the first stays. */
        private void tryHands(int spell, int wages, int ground) {
            if (leastWages != NONE && wages >= leastWages) {
                return;
            }
            if (spell >= spells) {
                if (ground >= neededGround) {
                    leastWages = wages;
                    System.arraycopy(hands, 0, bestHands, 0, spells);
                }
                return;
            }
            int hoursLeft = (spells - spell) * SPELL_HOURS;
            if (ground + hoursLeft * levels[spell].mills.count < neededGround) {
                return;
            }
            Winders winders = levels[spell].winders;
            for (int winder = 0; winder <= winders.count; winder++) {
                boolean somebody = winder < winders.count;
                River river = levels[spell + 1];
                river.copyFrom(levels[spell]);
                if (somebody) {
                    river.letWind(winder, false);
                }
                hands[spell] = somebody ? winder : NOBODY;
                int newWages = somebody ? wages + winders.wage[winder] : wages;
                tryHands(spell + 1, newWages, ground + river.passHours(SPELL_HOURS));
            }
        }

        int bestLead(River now, int mill, int other, int turns) {
            first = mill;
            second = other;
            gameTurns = Math.min(turns, MOST_GAME_TURNS);
            firstMove = NONE;
            copyOf(now);
            return play(0) - leadOf(now);
        }

        private int leadOf(River river) {
            return river.mills.ground[first] - river.mills.ground[second];
        }

        private int play(int turn) {
            if (turn >= gameTurns) {
                return leadOf(levels[turn]);
            }
            boolean isFirst = turn % 2 == 0;
            int best = 0;
            for (int move = OPEN_WIDE; move <= LEAVE; move++) {
                River river = levels[turn + 1];
                river.copyFrom(levels[turn]);
                moveGate(river, isFirst ? first : second, move);
                river.passHour();
                int lead = play(turn + 1);
                if (move == OPEN_WIDE || (isFirst ? lead > best : lead < best)) {
                    best = lead;
                    if (turn == 0) {
                        firstMove = move;
                    }
                }
            }
            return best;
        }

        private static void moveGate(River river, int mill, int move) {
            int reach = river.mills.at[mill];
            if (move == OPEN_WIDE) {
                river.reaches.gate[reach] = WIDEST_GATE;
            } else if (move == CLOSE) {
                river.reaches.gate[reach] = 0;
            }
        }
    }
}
