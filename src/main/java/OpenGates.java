import java.util.Arrays;

/** Forts that are held by what an army outside believes. */
public final class OpenGates {
    public static final int NONE = -1;
    public static final int NOTHING = -100000;

    private static final int CANT_BE = -1;
    private static final int NO_SUCH = -2;
    private static final int NOT_NOW = -3;
    private static final int NO_ROOM = -5;
    private static final int NO_TEXT = -6;

    private static final int GENERALS = 4;
    private static final int FORTS = 6;
    private static final int SIGNS = 6;
    private static final int HILLS = 6;
    private static final int LAWS = 6;
    private static final int IMAGES = 2;
    private static final int MOST_MEN = 99;
    private static final int MOST_FAME = 100;
    private static final int LAST_DAY = 999;

    private final Land land;
    private final Land[] images;
    private final Tape tape;
    private final Reader reader;
    private final Judge judge;
    private final Deeds deeds;
    private final Marshal marshal;
    private final Draws draws;
    private final int[] refusals;
    private int status;
    private int brooms;
    private int fault;
    private int stopped;

    public OpenGates() {
        land = new Land();
        images = new Land[IMAGES];
        tape = new Tape();
        Program program = new Program();
        reader = new Reader(tape, program);
        judge = new Judge(land);
        deeds = new Deeds(land, judge);
        marshal = new Marshal(land, deeds, program);
        draws = new Draws(land, deeds);
        refusals = new int[1 - NO_TEXT];
        fault = NONE;
        stopped = NONE;
    }

    public int fort(int men, int general) {
        int number = land.found(men, general);
        if (number >= 0) {
            deeds.close();
        }
        return settle(number);
    }

    public int of(int fort, int what) {
        if (!land.has(fort)) {
            return NONE;
        }
        switch (what) {
            case 0:
                return land.camp.men[fort];
            case 1:
                return land.general[fort];
            case 2:
                return land.camp.shown[fort];
            case 3:
                return land.camp.taken[fort];
            case 4:
                return judge.belief(fort, land.camp.shown[fort]);
            default:
                return NONE;
        }
    }

    public int sign(int sign, int what, int value) {
        int most = what == Land.PRICE ? 99 : 10;
        if (!within(sign, 0, SIGNS - 1) || !within(what, Land.FULL, Land.PRICE) || !within(value, 0, most)) {
            return refuse(CANT_BE);
        }
        int place = what * SIGNS + sign;
        int was = land.signs[place];
        land.signs[place] = value;
        deeds.close();
        return settle(was);
    }

    public int road(int one, int other, int hours) {
        if (one == other || !within(hours, 0, 99)) {
            return refuse(CANT_BE);
        }
        if (!land.has(one) || !land.has(other)) {
            return refuse(NO_SUCH);
        }
        int was = land.roads[one * FORTS + other];
        land.roads[one * FORTS + other] = hours;
        land.roads[other * FORTS + one] = hours;
        return settle(was);
    }

    public int fame(int general, int value) {
        if (!within(general, 0, GENERALS - 1) || !within(value, 0, MOST_FAME)) {
            return refuse(CANT_BE);
        }
        int was = land.camp.fame[general];
        land.camp.fame[general] = value;
        deeds.close();
        return settle(was);
    }

    public int asks(int fort, int other, int what) {
        if (!land.has(fort) || !within(what, 0, 3)) {
            return NONE;
        }
        if (what <= 1) {
            if (!within(other, 0, SIGNS - 1)) {
                return NONE;
            }
            return what == 0 ? judge.pays(fort, other) : bit(judge.bars(fort, other));
        }
        if (!within(other, 1, MOST_MEN)) {
            return NONE;
        }
        return what == 2 ? judge.turnsAt(fort, other) : bit(judge.turns(fort, other, land.camp.shown[fort]));
    }

    public int terms(int what, int value) {
        int most = what == Land.DAY ? LAST_DAY : what == Land.PRIOR ? 1000 : 9;
        if (!within(what, Land.DAY, Land.MOOD) || !within(value, 0, most)) {
            return refuse(CANT_BE);
        }
        int was = land.term(what);
        land.setTerm(what, value);
        deeds.close();
        return settle(was);
    }

    public int feed(int a, int b, int c, int d, int e) {
        if (tape.length + 20 > Tape.ROOM) {
            return NONE;
        }
        tape.append(a);
        tape.append(b);
        tape.append(c);
        tape.append(d);
        tape.append(e);
        return tape.length;
    }

    public int end(int n) {
        if (!within(n, 0, tape.length)) {
            return NONE;
        }
        tape.length = n;
        return n;
    }

    public int row() {
        if (tape.length == 0) {
            return refuse(NO_TEXT);
        }
        int came = 0;
        brooms = 0;
        for (int at = 0; at < tape.length; at += 2) {
            boolean whole = at + 1 < tape.length;
            if (whole && land.found(tape.bytes[at], tape.bytes[at + 1]) >= 0) {
                came++;
            } else {
                brooms++;
            }
        }
        tape.length = 0;
        deeds.close();
        return settle(came);
    }

    public int brooms() {
        return brooms;
    }

    public int law() {
        if (land.lawCount >= LAWS) {
            tape.length = 0;
            return refuse(NO_ROOM);
        }
        fault = reader.read(true);
        tape.length = 0;
        if (fault != NONE) {
            return refuse(NO_TEXT);
        }
        land.laws[land.lawCount] = reader.program.copy();
        land.lawCount++;
        return settle(land.lawCount - 1);
    }

    public int orders() {
        fault = reader.read(false);
        stopped = NONE;
        tape.length = 0;
        if (fault != NONE) {
            return refuse(NO_TEXT);
        }
        stopped = marshal.run();
        return settle(stopped == NONE ? marshal.done : NOT_NOW);
    }

    public int fault() {
        return fault;
    }

    public int stopped() {
        return stopped;
    }

    public int force(int law) {
        if (!within(law, NONE, land.lawCount - 1)) {
            return refuse(NO_SUCH);
        }
        int was = land.force;
        land.force = law;
        // NONE is an answer here, so it must not be counted as -1.
        status = 0;
        return was;
    }

    public int show(int fort, int sign) {
        return settle(deeds.attempt(Deeds.SHOW, fort, sign));
    }

    public int hide(int fort, int sign) {
        return settle(deeds.attempt(Deeds.HIDE, fort, sign));
    }

    public int man(int fort, int by) {
        return settle(deeds.attempt(Deeds.MAN, fort, by));
    }

    public int march(int army, int fort) {
        return settle(deeds.attempt(Deeds.MARCH, fort, army));
    }

    public int undo() {
        return settle(deeds.takeBack());
    }

    public int bluff(int fort, int army, int what) {
        if (!land.has(fort) || !within(army, 1, MOST_MEN) || !within(what, 0, 1) || land.camp.taken[fort] != 0) {
            return NONE;
        }
        int set = judge.cheapestSet(fort, army);
        return set == NONE || what == 1 ? set : judge.priceOf(fort, set);
    }

    public int scout(int fort, int what) {
        if (!land.has(fort) || !within(what, 0, 1)) {
            return NONE;
        }
        int best = 0;
        for (int sign = 1; sign < SIGNS; sign++) {
            if (judge.swayOf(fort, sign) > judge.swayOf(fort, best)) {
                best = sign;
            }
        }
        return what == 0 ? best : judge.swayOf(fort, best);
    }

    public long holds(int fort, int n) {
        if (!land.has(fort) || !within(n, 0, 30) || land.camp.taken[fort] != 0) {
            return NONE;
        }
        int withstood = 0;
        for (int army = 9; army <= MOST_MEN; army += 10) {
            if (army <= land.camp.men[fort] || judge.turns(fort, army, land.camp.shown[fort])) {
                withstood++;
            }
        }
        long chance = 1000000000000L;
        for (int i = 0; i < n; i++) {
            chance = chance * withstood / 10;
        }
        return chance;
    }

    public int retreat(int from, int to, int i) {
        if (!land.has(from) || !land.has(to) || from == to || i < NONE) {
            return NONE;
        }
        land.measureTo(to);
        if (land.distance[from] == Land.FAR) {
            return NONE;
        }
        return i == NONE ? land.distance[from] : land.stopOnWay(from, to, i);
    }

    public int game(int a0, int a1, int b0, int b1, int what) {
        if (!isEntry(a0) || !isEntry(a1) || !isEntry(b0) || !isEntry(b1) || !within(what, 0, 3)) {
            return NOTHING;
        }
        if (a0 <= a1 && a0 >= b0) {
            return pureRest(1, a0, what);
        }
        if (a1 <= a0 && a1 >= b1) {
            return pureRest(1, a1, what);
        }
        if (b0 <= b1 && b0 >= a0) {
            return pureRest(0, b0, what);
        }
        if (b1 <= b0 && b1 >= a1) {
            return pureRest(0, b1, what);
        }
        int above = what <= 1 ? b1 - b0 : a0 * b1 - a1 * b0;
        return fraction(above, a0 - a1 + b1 - b0, (what & 1) == 1);
    }

    public int siege(int cost, int name, int gain) {
        if (!within(cost, 0, 99) || !within(name, 0, Career.MOST_NAME) || !within(gain, 0, 999)) {
            return refuse(CANT_BE);
        }
        return settle(land.career.add(cost, name, gain));
    }

    public int career(int name, int what) {
        Career career = land.career;
        if (!within(name, 0, Career.MOST_NAME) || !within(what, 0, career.number)) {
            return NOTHING;
        }
        career.solve();
        return what == 0 ? career.best[name] : career.choiceAt(name, what - 1);
    }

    public int fire(int hills) {
        if (!within(hills, 0, (1 << HILLS) - 1)) {
            return refuse(CANT_BE);
        }
        return settle(land.hills.light(hills));
    }

    public int needs(int hill, int value) {
        if (!within(hill, 0, HILLS - 1) || !within(value, 0, 9)) {
            return refuse(CANT_BE);
        }
        int was = land.hills.needs[hill];
        land.hills.needs[hill] = value;
        return settle(was);
    }

    public int enough(int what) {
        if (!within(what, 0, 1)) {
            return NONE;
        }
        int set = land.hills.fewestFires();
        return set == NONE || what == 1 ? set : Integer.bitCount(set);
    }

    public int counted(int hill, int many) {
        if (!within(hill, 0, HILLS - 1) || !within(many, 0, 9)) {
            return refuse(CANT_BE);
        }
        return settle(land.hills.note(hill, many));
    }

    public int forget() {
        int together = land.career.number + land.hills.fires + land.hills.notes;
        land.career.number = 0;
        land.hills.clear();
        return together;
    }

    public int fits(int i) {
        if (i == NONE) {
            return land.hills.countFitting();
        }
        return i < 0 ? NONE : land.hills.fittingAt(i);
    }

    public int next(int what) {
        if (!within(what, 0, 1)) {
            return NONE;
        }
        land.hills.tallyFitting();
        int best = 0;
        for (int hill = 1; hill < HILLS; hill++) {
            if (land.hills.mostAlike(hill) < land.hills.mostAlike(best)) {
                best = hill;
            }
        }
        int left = land.hills.mostAlike(best);
        return left == 0 ? NONE : what == 0 ? best : left;
    }

    public int sieges(int seed, int n) {
        if (!within(seed, 0, 1000000) || !within(n, 1, 60)) {
            return refuse(CANT_BE);
        }
        return land.forts == 0 ? refuse(NOT_NOW) : settle(draws.run(seed, n));
    }

    public int drawn(int k, int what) {
        boolean ofGeneral = what == 3;
        if (draws.forts == 0 || !within(k, 0, ofGeneral ? GENERALS - 1 : draws.forts - 1)) {
            return NONE;
        }
        switch (what) {
            case 0:
                return draws.latest.men[k];
            case 1:
                return draws.latest.taken[k];
            case 2:
                return draws.latest.shown[k];
            case 3:
                return draws.latest.fame[k];
            default:
                return NONE;
        }
    }

    public int image(int k) {
        if (!within(k, 0, IMAGES - 1)) {
            return refuse(CANT_BE);
        }
        if (images[k] == null) {
            images[k] = new Land();
        }
        images[k].take(land);
        return settle(0);
    }

    public int back(int k) {
        if (!within(k, 0, IMAGES - 1)) {
            return refuse(CANT_BE);
        }
        if (images[k] == null) {
            return refuse(NO_SUCH);
        }
        land.take(images[k]);
        deeds.close();
        return settle(0);
    }

    public int count(int what) {
        if (within(what, 8, 12)) {
            return refusals[what <= 10 ? what - 7 : what - 6];
        }
        if (within(what, 14, 16)) {
            return land.term(what - 14);
        }
        if (within(what, 17, 20)) {
            return land.camp.fame[what - 17];
        }
        switch (what) {
            case 0:
                return land.forts;
            case 1:
                return land.takenForts();
            case 2:
                return land.career.number;
            case 3:
                return land.hills.fires;
            case 4:
                return land.hills.notes;
            case 5:
                return land.lawCount;
            case 6:
                return deeds.kept;
            case 7:
                return tape.length;
            case 13:
                return land.force;
            default:
                return NONE;
        }
    }

    public int status() {
        return status;
    }

    private int settle(int outcome) {
        if (outcome < 0) {
            return refuse(outcome);
        }
        status = 0;
        return outcome;
    }

    private int refuse(int by) {
        status = by;
        if (within(by, NO_TEXT, CANT_BE)) {
            refusals[-by]++;
        }
        return by;
    }

    private static boolean within(int value, int least, int most) {
        return value >= least && value <= most;
    }

    private static int bit(boolean is) {
        return is ? 1 : 0;
    }

    private static boolean isEntry(int value) {
        return within(value, -99, 99);
    }

    private static int pureRest(int rowZero, int entry, int what) {
        return what == 0 ? rowZero : what == 2 ? entry : 1;
    }

    private static int fraction(int above, int below, boolean wantsBelow) {
        int divisor = commonDivisor(Math.abs(above), Math.abs(below));
        if (divisor == 0) {
            return NOTHING;
        }
        int turned = below < 0 ? -divisor : divisor;
        return (wantsBelow ? below : above) / turned;
    }

    private static int commonDivisor(int one, int other) {
        int a = one;
        int b = other;
        for (int n = 0; b != 0 && n < 100; n++) {
            int rest = a % b;
            a = b;
            b = rest;
        }
        return a;
    }

    /** What deeds change: kept apart so that it can be put back cheaply. */
    private static final class Camp {
        final int[] men = new int[FORTS];
        final int[] shown = new int[FORTS];
        final int[] taken = new int[FORTS];
        final int[] fame = new int[GENERALS];
        int day;

        void take(Camp other) {
            System.arraycopy(other.men, 0, men, 0, FORTS);
            System.arraycopy(other.shown, 0, shown, 0, FORTS);
            System.arraycopy(other.taken, 0, taken, 0, FORTS);
            System.arraycopy(other.fame, 0, fame, 0, GENERALS);
            day = other.day;
        }
    }

    /** All that an image keeps. */
    private static final class Land {
        static final int FULL = 0;
        static final int EMPTY = 1;
        static final int PRICE = 2;
        static final int DAY = 0;
        static final int PRIOR = 1;
        static final int MOOD = 2;
        static final int FAR = 1000000;

        final Camp camp = new Camp();
        final Hills hills = new Hills();
        final Career career = new Career();
        final int[] general = new int[FORTS];
        final int[] signs = new int[3 * SIGNS];
        final int[] roads = new int[FORTS * FORTS];
        final int[] distance = new int[FORTS];
        // A law never changes once it is read, so images share them.
        final Program[] laws = new Program[LAWS];
        int forts;
        int prior = 500;
        int mood;
        int lawCount;
        int force = NONE;

        Land() {
            Arrays.fill(camp.fame, 50);
            Arrays.fill(signs, 0, PRICE * SIGNS, 5);
            Arrays.fill(signs, PRICE * SIGNS, 3 * SIGNS, 1);
        }

        void take(Land other) {
            camp.take(other.camp);
            hills.take(other.hills);
            career.take(other.career);
            System.arraycopy(other.general, 0, general, 0, FORTS);
            System.arraycopy(other.signs, 0, signs, 0, 3 * SIGNS);
            System.arraycopy(other.roads, 0, roads, 0, FORTS * FORTS);
            for (int i = 0; i < LAWS; i++) {
                laws[i] = other.laws[i];
            }
            forts = other.forts;
            prior = other.prior;
            mood = other.mood;
            lawCount = other.lawCount;
            force = other.force;
        }

        boolean has(int fort) {
            return within(fort, 0, forts - 1);
        }

        int found(int men, int itsGeneral) {
            if (!within(men, 0, MOST_MEN) || !within(itsGeneral, 0, GENERALS - 1)) {
                return CANT_BE;
            }
            if (forts >= FORTS) {
                return NO_ROOM;
            }
            camp.men[forts] = men;
            camp.shown[forts] = 0;
            camp.taken[forts] = 0;
            general[forts] = itsGeneral;
            forts++;
            return forts - 1;
        }

        int term(int what) {
            return what == DAY ? camp.day : what == PRIOR ? prior : mood;
        }

        void setTerm(int what, int value) {
            if (what == DAY) {
                camp.day = value;
            } else if (what == PRIOR) {
                prior = value;
            } else {
                mood = value;
            }
        }

        int takenForts() {
            int taken = 0;
            for (int fort = 0; fort < forts; fort++) {
                taken += camp.taken[fort];
            }
            return taken;
        }

        Program lawInForce() {
            return within(force, 0, lawCount - 1) ? laws[force] : null;
        }

        void measureTo(int to) {
            Arrays.fill(distance, FAR);
            distance[to] = 0;
            for (int round = 1; round < forts; round++) {
                for (int fort = 0; fort < forts; fort++) {
                    distance[fort] = Math.min(distance[fort], shortestFrom(fort, to));
                }
            }
        }

        private int shortestFrom(int fort, int to) {
            int shortest = FAR;
            for (int stop = 0; stop < forts; stop++) {
                if (leads(fort, stop, to)) {
                    shortest = Math.min(shortest, roads[fort * FORTS + stop] + distance[stop]);
                }
            }
            return shortest;
        }

        private boolean leads(int fort, int stop, int to) {
            return roads[fort * FORTS + stop] > 0 && (stop == to || camp.taken[stop] == 0);
        }

        int stopOnWay(int from, int to, int i) {
            int at = from;
            for (int step = 0; step < forts && at != to; step++) {
                at = quickestStop(at, to);
                if (step == i || at == NONE) {
                    return at;
                }
            }
            return NONE;
        }

        private int quickestStop(int at, int to) {
            for (int stop = 0; stop < forts; stop++) {
                if (leads(at, stop, to) && roads[at * FORTS + stop] + distance[stop] == distance[at]) {
                    return stop;
                }
            }
            return NONE;
        }
    }

    /** Fires, the hills they are seen from, and what was counted there. */
    private static final class Hills {
        static final int MOST_FIRES = 10;
        static final int MOST_NOTES = 8;

        // For each hill the fires that are seen from it, as bits.
        final int[] seen = new int[HILLS];
        final int[] needs = new int[HILLS];
        final int[] noteHill = new int[MOST_NOTES];
        final int[] noteMany = new int[MOST_NOTES];
        final int[] tally = new int[HILLS * (MOST_FIRES + 1)];
        int fires;
        int notes;

        void take(Hills other) {
            System.arraycopy(other.seen, 0, seen, 0, HILLS);
            System.arraycopy(other.needs, 0, needs, 0, HILLS);
            System.arraycopy(other.noteHill, 0, noteHill, 0, MOST_NOTES);
            System.arraycopy(other.noteMany, 0, noteMany, 0, MOST_NOTES);
            fires = other.fires;
            notes = other.notes;
        }

        void clear() {
            Arrays.fill(seen, 0);
            fires = 0;
            notes = 0;
        }

        int light(int from) {
            if (fires >= MOST_FIRES) {
                return NO_ROOM;
            }
            for (int hill = 0; hill < HILLS; hill++) {
                seen[hill] |= (from >> hill & 1) << fires;
            }
            fires++;
            return fires - 1;
        }

        int note(int hill, int many) {
            if (notes >= MOST_NOTES) {
                return NO_ROOM;
            }
            noteHill[notes] = hill;
            noteMany[notes] = many;
            notes++;
            return notes;
        }

        int fewestFires() {
            int best = NONE;
            for (int set = 0; set < 1 << fires; set++) {
                boolean fewer = best == NONE || Integer.bitCount(set) < Integer.bitCount(best);
                if (fewer && suffices(set)) {
                    best = set;
                }
            }
            return best;
        }

        private boolean suffices(int set) {
            for (int hill = 0; hill < HILLS; hill++) {
                if (Integer.bitCount(set & seen[hill]) < needs[hill]) {
                    return false;
                }
            }
            return true;
        }

        private boolean agrees(int set) {
            for (int i = 0; i < notes; i++) {
                if (Integer.bitCount(set & seen[noteHill[i]]) != noteMany[i]) {
                    return false;
                }
            }
            return true;
        }

        int countFitting() {
            int number = 0;
            for (int set = 0; set < 1 << fires; set++) {
                number += bit(agrees(set));
            }
            return number;
        }

        int fittingAt(int i) {
            int left = i;
            for (int set = 0; set < 1 << fires; set++) {
                if (agrees(set)) {
                    if (left == 0) {
                        return set;
                    }
                    left--;
                }
            }
            return NONE;
        }

        void tallyFitting() {
            Arrays.fill(tally, 0);
            for (int set = 0; set < 1 << fires; set++) {
                if (agrees(set)) {
                    for (int hill = 0; hill < HILLS; hill++) {
                        tally[hill * (MOST_FIRES + 1) + Integer.bitCount(set & seen[hill])]++;
                    }
                }
            }
        }

        int mostAlike(int hill) {
            int most = 0;
            for (int many = 0; many <= MOST_FIRES; many++) {
                most = Math.max(most, tally[hill * (MOST_FIRES + 1) + many]);
            }
            return most;
        }
    }

    /** Sieges in order, through each of which a name goes carefully or boldly. */
    private static final class Career {
        static final int MOST_NAME = 10;
        static final int MOST_SIEGES = 8;
        private static final int NAMES = MOST_NAME + 1;

        final int[] cost = new int[MOST_SIEGES];
        final int[] needed = new int[MOST_SIEGES];
        final int[] gain = new int[MOST_SIEGES];
        // The most from siege k on with each name; nothing behind the last.
        final int[] best = new int[(MOST_SIEGES + 1) * NAMES];
        int number;

        void take(Career other) {
            System.arraycopy(other.cost, 0, cost, 0, MOST_SIEGES);
            System.arraycopy(other.needed, 0, needed, 0, MOST_SIEGES);
            System.arraycopy(other.gain, 0, gain, 0, MOST_SIEGES);
            number = other.number;
        }

        int add(int itsCost, int itsName, int itsGain) {
            if (number >= MOST_SIEGES) {
                return NO_ROOM;
            }
            cost[number] = itsCost;
            needed[number] = itsName;
            gain[number] = itsGain;
            number++;
            return number - 1;
        }

        void solve() {
            Arrays.fill(best, number * NAMES, (number + 1) * NAMES, 0);
            for (int k = number - 1; k >= 0; k--) {
                for (int name = 0; name < NAMES; name++) {
                    best[k * NAMES + name] = Math.max(carefully(k, name), boldly(k, name));
                }
            }
        }

        private int carefully(int k, int name) {
            return best[(k + 1) * NAMES + Math.min(name + 1, MOST_NAME)] - cost[k];
        }

        private int boldly(int k, int name) {
            return best[(k + 1) * NAMES] + (name >= needed[k] ? gain[k] : -gain[k]);
        }

        int choiceAt(int nameAtFirst, int siege) {
            int name = nameAtFirst;
            int choice = 0;
            for (int k = 0; k <= siege && k < number; k++) {
                choice = bit(boldly(k, name) > carefully(k, name));
                name = choice == 1 ? 0 : Math.min(name + 1, MOST_NAME);
            }
            return choice;
        }
    }

    /** The bytes that were fed, and the tokens among them. */
    private static final class Tape {
        static final int ROOM = 400;

        // Kinds of tokens. A single other byte is its own kind; a word's kind is
        // WORD and its place in WORDS.
        static final int NUMBER = 256;
        static final int END = 257;
        static final int STRANGE = 258;
        static final int WORD = 300;
        static final int TURNS = 300;
        static final int PAYS = 301;
        static final int FAME = 302;
        static final int BARS = 303;
        static final int SHOW = 304;
        static final int HIDE = 305;
        static final int MAN = 306;
        static final int MARCH = 307;
        static final int AT = 308;
        static final int TO = 309;
        static final int BY = 310;
        static final int TIMES = 311;
        static final int IF = 312;
        static final int OR = 313;
        static final int AND = 314;
        static final int NOT = 315;
        static final int FORT = 316;
        static final int MEN = 317;
        static final int DAY = 324;
        static final int MOOD = 325;
        static final int DONE = 326;
        static final int LATEST = 327;
        static final int SHOWN = 328;
        private static final String WORDS = "turns pays fame bars show hide man march at to by times if or and not fort men general known sign army belief end day mood done latest shown ";
        private static final int TOO_GREAT = 9999;

        final int[] bytes = new int[ROOM];
        final int[] kinds = new int[ROOM + 1];
        final int[] places = new int[ROOM + 1];
        final int[] values = new int[ROOM + 1];
        int length;
        int tokens;

        void append(int four) {
            for (int shift = 24; shift >= 0 && length < ROOM; shift -= 8) {
                bytes[length] = four >> shift & 255;
                length++;
            }
        }

        void split() {
            tokens = 0;
            int at = 0;
            for (int n = 0; n < ROOM && at < length; n++) {
                int to = endOfToken(at);
                if (bytes[at] != ' ') {
                    keep(at, to);
                }
                at = to;
            }
            kinds[tokens] = END;
            places[tokens] = length;
            tokens++;
        }

        private int endOfToken(int from) {
            boolean letters = isLetter(bytes[from]);
            if (!letters && !isDigit(bytes[from])) {
                return from + 1;
            }
            int to = from + 1;
            while (to < length && (letters ? isLetter(bytes[to]) : isDigit(bytes[to]))) {
                to++;
            }
            return to;
        }

        private void keep(int from, int to) {
            places[tokens] = from;
            values[tokens] = 0;
            if (isLetter(bytes[from])) {
                kinds[tokens] = kindOfWord(from, to);
            } else if (isDigit(bytes[from])) {
                kinds[tokens] = NUMBER;
                values[tokens] = valueOf(from, to);
            } else {
                kinds[tokens] = bytes[from];
            }
            tokens++;
        }

        private int valueOf(int from, int to) {
            int value = 0;
            for (int at = from; at < to; at++) {
                value = Math.min(TOO_GREAT, value * 10 + bytes[at] - '0');
            }
            return value;
        }

        private int kindOfWord(int from, int to) {
            int kind = WORD;
            int at = from;
            boolean same = true;
            for (int i = 0; i < WORDS.length(); i++) {
                char letter = WORDS.charAt(i);
                if (letter != ' ') {
                    same = same && at < to && bytes[at] == letter;
                    at++;
                } else if (same && at == to) {
                    return kind;
                } else {
                    kind++;
                    at = from;
                    same = true;
                }
            }
            return STRANGE;
        }

        private static boolean isLetter(int sign) {
            return sign >= 'a' && sign <= 'z';
        }

        private static boolean isDigit(int sign) {
            return sign >= '0' && sign <= '9';
        }
    }

    /** A text that was read: its clauses, and their sums and tests as steps on a stack. */
    private static final class Program {
        static final int MOST_CLAUSES = 12;
        static final int FIRST = 0;
        static final int SECOND = 1;
        static final int TEST = 2;
        static final int STOP = 3;
        static final int STACK = 64;
        static final int BROKEN = 1 << 31;

        static final int PUSH = 0;
        static final int LOOK = 1;
        static final int ADD = 2;
        static final int SUBTRACT = 3;
        static final int MULTIPLY = 4;
        static final int DIVIDE = 5;
        static final int LEAVE = 6;
        static final int LESS = 7;
        static final int MORE = 8;
        static final int SAME = 9;
        static final int NOT = 10;
        static final int OR = 11;
        static final int AND = 12;
        private static final int BITS = 4;
        private static final int MARKS = STOP + 1;
        private static final long LIMIT = 1000000000L;

        final int[] kind;
        final int[] times;
        // Where each clause's first sum, second sum and test begin, and where it ends.
        private final int[] marks;
        private final int[] code;
        private int length;
        int clauses;

        Program() {
            kind = new int[MOST_CLAUSES];
            times = new int[MOST_CLAUSES];
            marks = new int[MOST_CLAUSES * MARKS];
            code = new int[Tape.ROOM];
        }

        private Program(Program other) {
            kind = Arrays.copyOf(other.kind, other.clauses);
            times = Arrays.copyOf(other.times, other.clauses);
            marks = Arrays.copyOf(other.marks, other.clauses * MARKS);
            code = Arrays.copyOf(other.code, other.length);
            length = other.length;
            clauses = other.clauses;
        }

        Program copy() {
            return new Program(this);
        }

        void clear() {
            length = 0;
            clauses = 0;
        }

        void open(int itsKind) {
            if (clauses < MOST_CLAUSES) {
                kind[clauses] = itsKind;
                times[clauses] = 1;
                clauses++;
                begin(FIRST);
            }
        }

        void repeat(int many) {
            if (clauses > 0) {
                times[clauses - 1] = many;
            }
        }

        /** What comes now is this section of the latest clause; those behind it are empty so far. */
        void begin(int section) {
            for (int i = section; i < MARKS && clauses > 0; i++) {
                marks[(clauses - 1) * MARKS + i] = length;
            }
        }

        int add(int step, int value) {
            if (length < code.length) {
                code[length] = value << BITS | step;
                length++;
            }
            return length - 1;
        }

        /** The step at that place goes on here, if what stands between can't matter. */
        void aim(int place) {
            if (place >= 0 && place < length) {
                code[place] = length << BITS | code[place] & (1 << BITS) - 1;
            }
        }

        /** BROKEN, or what the section is worth; one that is empty is so: 1. */
        int worth(int clause, int section, int[] words, long[] stack) {
            int mark = clause * MARKS + section;
            if (clause < 0 || clause >= clauses || section < FIRST || section > TEST || marks[mark] < 0) {
                return BROKEN;
            }
            int stop = Math.min(marks[mark + 1], length);
            int top = 0;
            int goesOn = 0;
            for (int at = marks[mark]; at < stop; at++) {
                int step = code[at] & (1 << BITS) - 1;
                int value = code[at] >> BITS;
                if (at < goesOn) {
                    continue;
                }
                if (step <= LOOK) {
                    if (top >= stack.length || value < 0 || step == LOOK && value >= words.length) {
                        return BROKEN;
                    }
                    stack[top] = step == LOOK ? words[value] : value;
                    top++;
                } else if (top < (step < NOT ? 2 : 1)) {
                    return BROKEN;
                } else if (step < NOT) {
                    top--;
                    stack[top - 1] = joined(step, stack[top - 1], stack[top]);
                    if (stack[top - 1] > LIMIT || stack[top - 1] < -LIMIT) {
                        return BROKEN;
                    }
                } else if (step == NOT) {
                    stack[top - 1] = 1 - stack[top - 1];
                } else if ((stack[top - 1] != 0) == (step == OR)) {
                    goesOn = value;
                } else {
                    top--;
                }
            }
            return top == 0 ? 1 : (int) stack[top - 1];
        }

        private static long joined(int step, long one, long other) {
            switch (step) {
                case ADD:
                    return one + other;
                case SUBTRACT:
                    return one - other;
                case MULTIPLY:
                    return one * other;
                case DIVIDE:
                    return other == 0 ? BROKEN : one / other;
                case LEAVE:
                    return other == 0 ? BROKEN : one % other;
                case LESS:
                    return one < other ? 1 : 0;
                case MORE:
                    return one > other ? 1 : 0;
                default:
                    return one == other ? 1 : 0;
            }
        }
    }

    /** Reads the tape as a text of either language into a program. */
    private static final class Reader {
        static final int ORDER_WORDS = 19;
        static final int MEN_WORDS = 3;
        static final int SHOWN_WORDS = 9;
        static final int FAME_WORDS = 15;
        private static final int MOST_PARTS = 50;
        private static final int MOST_BRACKETS = 8;
        private static final int MOST_NUMBER = 1000;
        private static final int MOST_TIMES = 20;

        final Tape tape;
        final Program program;
        private boolean ofLaws;
        private int parts;
        // The token that is looked at: its number, kind and value.
        private int at;
        private int kind;
        private int value;

        Reader(Tape tape, Program program) {
            this.tape = tape;
            this.program = program;
        }

        /** NONE, or the place of the first token that can't go on. */
        int read(boolean asLaw) {
            tape.split();
            program.clear();
            ofLaws = asLaw;
            parts = 0;
            lookAt(0);
            boolean more = true;
            for (int n = 0; more && n < Program.MOST_CLAUSES; n++) {
                boolean good = asLaw ? readLawHead() : readOrderHead();
                if (!good || !readIf()) {
                    return tape.places[at];
                }
                more = passes(';');
            }
            return more || kind != Tape.END ? tape.places[at] : NONE;
        }

        private void lookAt(int token) {
            if (token < tape.tokens) {
                at = token;
                kind = tape.kinds[token];
                value = tape.values[token];
            }
        }

        private boolean passes(int wanted) {
            if (kind != wanted) {
                return false;
            }
            lookAt(at + 1);
            return true;
        }

        private boolean isNumber(int least, int most) {
            return kind == Tape.NUMBER && value >= least && value <= most;
        }

        private boolean readLawHead() {
            int head = kind;
            if (!within(head, Tape.TURNS, Tape.BARS)) {
                return false;
            }
            program.open(head);
            lookAt(at + 1);
            boolean good = head == Tape.BARS || readSum(0);
            program.begin(Program.SECOND);
            return good;
        }

        private boolean readOrderHead() {
            int head = kind;
            if (!within(head, Tape.SHOW, Tape.MARCH)) {
                return false;
            }
            int joint = head == Tape.MARCH ? Tape.TO : head == Tape.MAN ? Tape.BY : Tape.AT;
            program.open(head);
            lookAt(at + 1);
            if (!readSum(0) || !passes(joint)) {
                return false;
            }
            program.begin(Program.SECOND);
            if (!readSum(0)) {
                return false;
            }
            if (!passes(Tape.TIMES)) {
                return true;
            }
            if (!isNumber(1, MOST_TIMES)) {
                return false;
            }
            program.repeat(value);
            lookAt(at + 1);
            return true;
        }

        private boolean readIf() {
            program.begin(Program.TEST);
            if (passes(Tape.IF) && !readTest(0)) {
                return false;
            }
            program.begin(Program.STOP);
            return true;
        }

        private boolean readTest(int depth) {
            boolean good = readBoth(depth);
            for (int n = 0; good && n < Tape.ROOM && passes(Tape.OR); n++) {
                int place = program.add(Program.OR, 0);
                good = readBoth(depth);
                program.aim(place);
            }
            return good;
        }

        private boolean readBoth(int depth) {
            boolean good = readPlain(depth);
            for (int n = 0; good && n < Tape.ROOM && passes(Tape.AND); n++) {
                int place = program.add(Program.AND, 0);
                good = readPlain(depth);
                program.aim(place);
            }
            return good;
        }

        private boolean readPlain(int depth) {
            boolean turned = false;
            for (int n = 0; n < Tape.ROOM && passes(Tape.NOT); n++) {
                turned = !turned;
            }
            boolean good = kind == '(' ? readInBrackets('(', depth) : readComparison(depth);
            if (turned) {
                program.add(Program.NOT, 0);
            }
            return good;
        }

        private boolean readInBrackets(int opening, int depth) {
            if (depth >= MOST_BRACKETS) {
                return false;
            }
            lookAt(at + 1);
            return opening == '(' ? readTest(depth + 1) && passes(')') : readSum(depth + 1) && passes(']');
        }

        private boolean readComparison(int depth) {
            if (!readSum(depth)) {
                return false;
            }
            int sign = kind;
            if (sign != '<' && sign != '>' && sign != '=') {
                return false;
            }
            lookAt(at + 1);
            boolean good = readSum(depth);
            program.add(sign == '<' ? Program.LESS : sign == '>' ? Program.MORE : Program.SAME, 0);
            return good;
        }

        private boolean readSum(int depth) {
            boolean good = readTerm(depth);
            for (int n = 0; good && n < Tape.ROOM && (kind == '+' || kind == '-'); n++) {
                int step = kind == '+' ? Program.ADD : Program.SUBTRACT;
                lookAt(at + 1);
                good = readTerm(depth);
                program.add(step, 0);
            }
            return good;
        }

        private boolean readTerm(int depth) {
            boolean good = readPart(depth);
            for (int n = 0; good && n < Tape.ROOM && (kind == '*' || kind == '/' || kind == '%'); n++) {
                int step = kind == '*' ? Program.MULTIPLY : kind == '/' ? Program.DIVIDE : Program.LEAVE;
                lookAt(at + 1);
                good = readPart(depth);
                program.add(step, 0);
            }
            return good;
        }

        private boolean readPart(int depth) {
            if (kind == '[') {
                return readInBrackets('[', depth);
            }
            if (parts >= MOST_PARTS) {
                return false;
            }
            parts++;
            if (isNumber(0, MOST_NUMBER)) {
                program.add(Program.PUSH, value);
                lookAt(at + 1);
                return true;
            }
            return ofLaws ? readLawWord() : readOrderWord();
        }

        private boolean readLawWord() {
            if (!within(kind, Tape.FORT, Tape.MOOD)) {
                return false;
            }
            program.add(Program.LOOK, kind - Tape.FORT);
            lookAt(at + 1);
            return true;
        }

        private boolean readOrderWord() {
            switch (kind) {
                case Tape.DAY:
                    return readWordOf(0, 0);
                case Tape.DONE:
                    return readWordOf(1, 0);
                case Tape.LATEST:
                    return readWordOf(2, 0);
                case Tape.MEN:
                    return readWordOf(MEN_WORDS, FORTS);
                case Tape.SHOWN:
                    return readWordOf(SHOWN_WORDS, FORTS);
                case Tape.FAME:
                    return readWordOf(FAME_WORDS, GENERALS);
                default:
                    return false;
            }
        }

        /** A word, with the number of one of so many behind it, if there are any. */
        private boolean readWordOf(int word, int many) {
            lookAt(at + 1);
            if (many == 0) {
                program.add(Program.LOOK, word);
                return true;
            }
            if (!isNumber(0, many - 1)) {
                return false;
            }
            program.add(Program.LOOK, word + value);
            lookAt(at + 1);
            return true;
        }
    }

    /** What an army believes, and what the law in force says. */
    private static final class Judge {
        private static final int HUNDREDTH = 10000;
        private static final int WITHOUT_TURNS = 50;

        private final Land land;
        // fort, men, general, known, sign, army, belief, end, day, mood: as in Tape.WORDS.
        private final int[] words = new int[10];
        private final int[] prices = new int[SIGNS];
        private final long[] stack = new long[Program.STACK];

        Judge(Land land) {
            this.land = land;
        }

        int belief(int fort, int shown) {
            long even = land.prior * 1000L;
            long full = land.prior;
            long empty = 1000 - land.prior;
            for (int sign = 0; sign < SIGNS; sign++) {
                int ifFull = land.signs[Land.FULL * SIGNS + sign];
                int ifEmpty = land.signs[Land.EMPTY * SIGNS + sign];
                boolean isShown = (shown >> sign & 1) == 1;
                full *= isShown ? ifFull : 10 - ifFull;
                empty *= isShown ? ifEmpty : 10 - ifEmpty;
            }
            long both = full + empty;
            long bySigns = both == 0 ? even : full * 1000000 / both;
            int fame = land.camp.fame[land.general[fort]];
            return (int) ((fame * bySigns + (MOST_FAME - fame) * even) / MOST_FAME);
        }

        int pays(int fort, int sign) {
            ask(fort, sign, NONE, NONE, NONE);
            return told(Tape.PAYS, land.signs[Land.PRICE * SIGNS + sign], 0, 99);
        }

        boolean bars(int fort, int sign) {
            ask(fort, sign, NONE, NONE, NONE);
            return told(Tape.BARS, 0, 0, 1) == 1;
        }

        int turnsAt(int fort, int army) {
            ask(fort, NONE, army, belief(fort, land.camp.shown[fort]) / HUNDREDTH, NONE);
            return told(Tape.TURNS, WITHOUT_TURNS, 0, 100);
        }

        boolean turns(int fort, int army, int shown) {
            int belief = belief(fort, shown);
            ask(fort, NONE, army, belief / HUNDREDTH, NONE);
            return belief >= HUNDREDTH * told(Tape.TURNS, WITHOUT_TURNS, 0, 100);
        }

        int fameBy(int fort, int army, int outcome) {
            ask(fort, NONE, army, belief(fort, land.camp.shown[fort]) / HUNDREDTH, outcome);
            return told(Tape.FAME, 0, -20, 20);
        }

        private void ask(int fort, int sign, int army, int belief, int outcome) {
            words[0] = fort;
            words[1] = land.camp.men[fort];
            words[2] = land.general[fort];
            words[3] = land.camp.fame[land.general[fort]];
            words[4] = sign;
            words[5] = army;
            words[6] = belief;
            words[7] = outcome;
            words[8] = land.camp.day;
            words[9] = land.mood;
        }

        /** What the last clause of a kind that holds tells; what stands without, if there is none. */
        private int told(int kind, int without, int least, int most) {
            Program law = land.lawInForce();
            if (law == null) {
                return without;
            }
            for (int clause = law.clauses - 1; clause >= 0; clause--) {
                if (law.kind[clause] == kind && law.worth(clause, Program.TEST, words, stack) == 1) {
                    int value = law.worth(clause, Program.FIRST, words, stack);
                    if (value != Program.BROKEN) {
                        return Math.max(least, Math.min(most, value));
                    }
                }
            }
            return without;
        }

        /** By how much belief differs, whether a sign is shown or not. */
        int swayOf(int fort, int sign) {
            int shown = land.camp.shown[fort];
            int bit = 1 << sign;
            return Math.abs(belief(fort, shown | bit) - belief(fort, shown & ~bit));
        }

        /** The cheapest signs that turn an army, as bits; NONE, if none do. */
        int cheapestSet(int fort, int army) {
            int allowed = 0;
            for (int sign = 0; sign < SIGNS; sign++) {
                boolean isShown = (land.camp.shown[fort] >> sign & 1) == 1;
                if (isShown || !bars(fort, sign)) {
                    allowed |= 1 << sign;
                }
                prices[sign] = pays(fort, sign);
            }
            int best = NONE;
            int least = 0;
            for (int set = 0; set < 1 << SIGNS; set++) {
                int price = together(set);
                boolean cheaper = best == NONE || price < least;
                if ((set & ~allowed) == 0 && cheaper && turns(fort, army, set)) {
                    best = set;
                    least = price;
                }
            }
            return best;
        }

        private int together(int set) {
            int sum = 0;
            for (int sign = 0; sign < SIGNS; sign++) {
                sum += (set >> sign & 1) * prices[sign];
            }
            return sum;
        }

        int priceOf(int fort, int set) {
            for (int sign = 0; sign < SIGNS; sign++) {
                prices[sign] = pays(fort, sign);
            }
            return together(set);
        }
    }

    /** Shows, hides, mans and marches, and takes the latest of these back. */
    private static final class Deeds {
        static final int SHOW = 0;
        static final int HIDE = 1;
        static final int MAN = 2;
        static final int MARCH = 3;
        private static final int[] LEAST = {0, 0, -99, 1};
        private static final int[] MOST = {5, 5, 99, 99};
        private static final int MOST_KEPT = 16;
        private static final int WIDTH = 7;

        private final Land land;
        private final Judge judge;
        // Of each deed: which, the fort, then men, signs, taken, fame and day ahead of it.
        private final int[] log = new int[MOST_KEPT * WIDTH];
        private final int[] markedLog = new int[MOST_KEPT * WIDTH];
        private int markedKept;
        int kept;

        Deeds(Land land, Judge judge) {
            this.land = land;
            this.judge = judge;
        }

        /** The answer of a deed that is done, or what refuses it. */
        int attempt(int deed, int fort, int value) {
            int refusal = refusalOf(deed, fort, value);
            if (refusal != 0) {
                return refusal;
            }
            remember(deed, fort);
            return deed == MARCH ? marchOn(fort, value) : changeFort(deed, fort, value);
        }

        int refusalOf(int deed, int fort, int value) {
            if (!within(deed, SHOW, MARCH) || !within(value, LEAST[deed], MOST[deed])) {
                return CANT_BE;
            }
            if (!land.has(fort)) {
                return NO_SUCH;
            }
            if (land.camp.taken[fort] != 0) {
                return NOT_NOW;
            }
            boolean can;
            if (deed == MARCH) {
                can = land.camp.day < LAST_DAY;
            } else if (deed == MAN) {
                can = within(land.camp.men[fort] + value, 0, MOST_MEN);
            } else {
                boolean isShown = (land.camp.shown[fort] >> value & 1) == 1;
                can = deed == HIDE ? isShown : !isShown && !judge.bars(fort, value);
            }
            return can ? 0 : NOT_NOW;
        }

        /** Shows, hides or mans, where nothing refuses it. */
        int changeFort(int deed, int fort, int value) {
            Camp camp = land.camp;
            if (deed == MAN) {
                camp.men[fort] += value;
                return camp.men[fort];
            }
            camp.shown[fort] ^= 1 << value;
            return deed == HIDE ? camp.shown[fort] : judge.pays(fort, value);
        }

        /** Marches, where nothing refuses it. */
        int marchOn(int fort, int army) {
            Camp camp = land.camp;
            int outcome = 0;
            if (judge.turns(fort, army, camp.shown[fort])) {
                outcome = 1;
            } else if (army > camp.men[fort]) {
                outcome = 2;
                camp.taken[fort] = 1;
            } else {
                camp.men[fort] -= army / 3;
            }
            int general = land.general[fort];
            int fame = camp.fame[general] + judge.fameBy(fort, army, outcome);
            camp.fame[general] = Math.max(0, Math.min(MOST_FAME, fame));
            camp.day++;
            return outcome;
        }

        private void remember(int deed, int fort) {
            if (kept >= MOST_KEPT) {
                kept = MOST_KEPT - 1;
                System.arraycopy(log, WIDTH, log, 0, kept * WIDTH);
            }
            int at = kept * WIDTH;
            log[at] = deed;
            log[at + 1] = fort;
            log[at + 2] = land.camp.men[fort];
            log[at + 3] = land.camp.shown[fort];
            log[at + 4] = land.camp.taken[fort];
            log[at + 5] = land.camp.fame[land.general[fort]];
            log[at + 6] = land.camp.day;
            kept++;
        }

        int takeBack() {
            if (kept <= 0) {
                return NOT_NOW;
            }
            kept--;
            int at = kept * WIDTH;
            int fort = log[at + 1];
            if (land.has(fort)) {
                land.camp.men[fort] = log[at + 2];
                land.camp.shown[fort] = log[at + 3];
                land.camp.taken[fort] = log[at + 4];
                land.camp.fame[land.general[fort]] = log[at + 5];
                land.camp.day = log[at + 6];
            }
            return log[at];
        }

        /** Nothing that was done so far can be taken back any more. */
        void close() {
            kept = 0;
        }

        void markLog() {
            System.arraycopy(log, 0, markedLog, 0, kept * WIDTH);
            markedKept = kept;
        }

        void returnToMark() {
            kept = markedKept;
            System.arraycopy(markedLog, 0, log, 0, kept * WIDTH);
        }
    }

    /** Runs orders wholly or not at all. */
    private static final class Marshal {
        private final Land land;
        private final Deeds deeds;
        private final Program program;
        private final Camp ahead = new Camp();
        private final int[] words = new int[Reader.ORDER_WORDS];
        private final long[] stack = new long[Program.STACK];
        private int latest;
        int done;

        Marshal(Land land, Deeds deeds, Program program) {
            this.land = land;
            this.deeds = deeds;
            this.program = program;
        }

        /** NONE, or the clause that could not be: then all is as it was. */
        int run() {
            ahead.take(land.camp);
            deeds.markLog();
            done = 0;
            latest = NONE;
            for (int clause = 0; clause < program.clauses; clause++) {
                int deed = program.kind[clause] - Tape.SHOW;
                for (int time = 0; time < program.times[clause]; time++) {
                    lookAround();
                    if (program.worth(clause, Program.TEST, words, stack) != 1) {
                        continue;
                    }
                    int first = program.worth(clause, Program.FIRST, words, stack);
                    int second = program.worth(clause, Program.SECOND, words, stack);
                    boolean broken = first == Program.BROKEN || second == Program.BROKEN;
                    int fort = deed == Deeds.MAN ? first : second;
                    int value = deed == Deeds.MAN ? second : first;
                    int outcome = broken ? NOT_NOW : deeds.attempt(deed, fort, value);
                    if (outcome < 0) {
                        land.camp.take(ahead);
                        deeds.returnToMark();
                        return clause;
                    }
                    done++;
                    latest = deed == Deeds.MARCH ? outcome : latest;
                }
            }
            return NONE;
        }

        private void lookAround() {
            words[0] = land.camp.day;
            words[1] = done;
            words[2] = latest;
            for (int fort = 0; fort < FORTS; fort++) {
                words[Reader.MEN_WORDS + fort] = land.has(fort) ? land.camp.men[fort] : NONE;
                words[Reader.SHOWN_WORDS + fort] = land.has(fort) ? land.camp.shown[fort] : NONE;
            }
            for (int general = 0; general < GENERALS; general++) {
                words[Reader.FAME_WORDS + general] = land.camp.fame[general];
            }
        }
    }

    /** Sieges by draws, on paper. */
    private static final class Draws {
        private static final long FACTOR = 1103;
        private static final long SUMMAND = 12345;
        private static final long MODULUS = 1000003;

        private final Land land;
        private final Deeds deeds;
        private final Camp ahead = new Camp();
        final Camp latest = new Camp();
        // How many forts there were then; 0 ahead of any draws.
        int forts;
        private long seed;

        Draws(Land land, Deeds deeds) {
            this.land = land;
            this.deeds = deeds;
        }

        int run(int firstSeed, int n) {
            ahead.take(land.camp);
            seed = firstSeed;
            int turned = 0;
            for (int i = 0; i < n; i++) {
                turned += bit(runOnce());
            }
            latest.take(land.camp);
            forts = land.forts;
            land.camp.take(ahead);
            return turned;
        }

        private int draw(int of) {
            seed = (seed * FACTOR + SUMMAND) % MODULUS;
            return of <= 0 ? 0 : (int) (seed % of);
        }

        private boolean runOnce() {
            int fort = draw(land.forts);
            int army = draw(99) + 1;
            int sign = draw(SIGNS);
            if (!land.has(fort)) {
                return false;
            }
            boolean isShown = (land.camp.shown[fort] >> sign & 1) == 1;
            int deed = isShown ? Deeds.HIDE : Deeds.SHOW;
            if (deeds.refusalOf(deed, fort, sign) == 0) {
                deeds.changeFort(deed, fort, sign);
            }
            return deeds.refusalOf(Deeds.MARCH, fort, army) == 0 && deeds.marchOn(fort, army) == 1;
        }
    }
}
