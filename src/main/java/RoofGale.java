/**
 * A shore on which roofs are lifted off before each gale. The numbered promises of DOC.md say what
 * each call answers; README.md says how to use and test this class.
 */
public final class RoofGale {
    public static final int NONE = -1;

    private static final int NO_TRAY = 1;
    private static final int NO_SUCH_THING = 2;
    private static final int TRAY_MISSING = 3;
    private static final int NO_PLACE = 4;
    private static final int WRONG_NUMBER = 5;
    private static final int BELOW_ZERO = 6;
    private static final int ONE_TOO_MANY = 7;
    private static final int THERE_IS_NONE = 8;
    private static final int CANNOT_BE = 9;
    private static final int HAS_FAULT = 10;
    private static final int UNLIKE_SORTS = 11;

    private static final int MOST_HOUSES = 8;
    private static final int MOST_GANGS = 4;
    private static final int MOST_WINDS = 6;
    private static final int MOST_MARKS = 3;
    private static final int MOST_STEPS = 30;
    private static final int MOST_NESTED = 3;
    private static final int MOST_LIVED = 300;
    private static final int SETS = 1 << MOST_HOUSES;

    private static final int TAPE_BYTES = 900;
    private static final int YEARS_BYTES = 300;
    private static final int FEED_BYTES = 20;

    private static final int LONGEST_HOUR = 240;
    private static final int LAST_MINUTE = 9999;
    private static final int LAST_SEED = 9999;
    private static final int MOST_HELPED = 9999;
    private static final int STRONGEST = 99;
    private static final int LONGEST_ALL_OFF = 999;
    /** Above every number of minutes that a gang can need. */
    private static final int NEVER = 1000000;

    private static final int LAW_WORTH = 0;
    private static final int LAW_OWED = 1;
    private static final int LAW_NEAR = 2;
    private static final int LAW_TOLD = 3;

    /** The words that are no names; the numbers below are their places in this list. */
    private static final String WORDS =
            "house at worth pieces weight long pegs gang hands pace helped by wind of law owed near told hour gale dawn rest lift with when off stands loop end stop ";
    private static final int MANY_WORDS = 30;
    private static final int W_HOUSE = 0;
    private static final int W_AT = 1;
    private static final int W_WORTH = 2;
    private static final int W_PIECES = 3;
    private static final int W_WEIGHT = 4;
    private static final int W_LONG = 5;
    private static final int W_PEGS = 6;
    private static final int W_GANG = 7;
    private static final int W_HANDS = 8;
    private static final int W_PACE = 9;
    private static final int W_HELPED = 10;
    private static final int W_BY = 11;
    private static final int W_WIND = 12;
    private static final int W_OF = 13;
    private static final int W_LAW = 14;
    private static final int W_OWED = 15;
    private static final int W_NEAR = 16;
    private static final int W_TOLD = 17;
    private static final int W_HOUR = 18;
    private static final int W_GALE = 19;
    private static final int W_DAWN = 20;
    private static final int W_REST = 21;
    private static final int W_LIFT = 22;
    private static final int W_WITH = 23;
    private static final int W_WHEN = 24;
    private static final int W_OFF = 25;
    private static final int W_STANDS = 26;
    private static final int W_LOOP = 27;
    private static final int W_END = 28;
    private static final int W_STOP = 29;

    private int status;
    private long fractionTop;
    private long fractionBottom = 1;
    /** NONE ahead of any text that was read. */
    private int faultKind = NONE;
    private int faultPlace = NONE;
    private final Tape tape = new Tape();
    private final Trays trays = new Trays();
    private Shore shore = new Shore();
    /** Where a text is read to, and where an hour or years are tried: never what a call tells of later. */
    private Shore draft = new Shore();
    private Years years = new Years();
    private Years draftYears = new Years();
    private final Shore[] markedShores = new Shore[MOST_MARKS];
    private final Years[] markedYears = new Years[MOST_MARKS];
    private int marks;
    private final Plans plans = new Plans();
    /** NONE until best() found one. */
    private int foundSet = NONE;
    private final Life life = new Life();
    private final Life triedLife = new Life();
    private boolean hasLived;

    public RoofGale() {
        for (int m = 0; m < MOST_MARKS; m++) {
            markedShores[m] = new Shore();
            markedYears[m] = new Years();
        }
    }

    public int status() {
        return status;
    }

    public long top() {
        return fractionTop;
    }

    public long bottom() {
        return fractionBottom;
    }

    // ---- what every call ends with

    private int none(int why) {
        status = why;
        return NONE;
    }

    private boolean no(int why) {
        status = why;
        return false;
    }

    private int answer(int number) {
        status = 0;
        return number;
    }

    private boolean yes() {
        status = 0;
        return true;
    }

    private boolean tellFraction(long top, long bottom) {
        long a = Math.abs(top);
        long b = bottom;
        for (int round = 0; round < 100 && b > 0; round++) {
            long left = a % b;
            a = b;
            b = left;
        }
        long divisor = Math.max(1, a);
        fractionTop = top / divisor;
        fractionBottom = bottom / divisor;
        return yes();
    }

    private static boolean within(int number, int least, int most) {
        return number >= least && number <= most;
    }

    private boolean isHouse(int house) {
        return within(house, 0, shore.houseCount - 1);
    }

    private boolean isGang(int gang) {
        return within(gang, 0, shore.gangCount - 1);
    }

    // ---- TRAYS

    public boolean tray(int tray, int sort, int many) {
        if (!trays.has(tray) || !within(sort, 0, Trays.LAST_SORT)) {
            return no(NO_TRAY);
        }
        if (many > Trays.LONGEST) {
            return no(WRONG_NUMBER);
        }
        if (many < 0) {
            return no(BELOW_ZERO);
        }
        trays.lay(tray, sort, many);
        return yes();
    }

    public boolean write(int tray, int place, long v) {
        int why = trays.whyNot(tray, place, 1);
        if (why != 0) {
            return no(why);
        }
        trays.put(tray, place, v);
        return yes();
    }

    public long read(int tray, int place) {
        int why = trays.whyNot(tray, place, 1);
        if (why != 0) {
            return none(why);
        }
        status = 0;
        return trays.rows[tray][place];
    }

    public boolean pour(int tray, int i, int to, int j, int many) {
        if (!trays.has(tray) || !trays.has(to)) {
            return no(NO_TRAY);
        }
        if (trays.isMissing(tray) || trays.isMissing(to)) {
            return no(TRAY_MISSING);
        }
        if (trays.sorts[tray] != trays.sorts[to]) {
            return no(UNLIKE_SORTS);
        }
        if (many < 0) {
            return no(BELOW_ZERO);
        }
        if (!trays.reaches(tray, i, many) || !trays.reaches(to, j, many)) {
            return no(NO_PLACE);
        }
        System.arraycopy(trays.rows[tray], i, trays.rows[to], j, many);
        return yes();
    }

    // ---- texts

    public int feed(int a, int b, int c, int d, int e) {
        if (tape.fed + FEED_BYTES > TAPE_BYTES) {
            return NONE;
        }
        tape.put(a);
        tape.put(b);
        tape.put(c);
        tape.put(d);
        tape.put(e);
        return tape.fed;
    }

    public int shore(int n) {
        if (!within(n, 0, tape.fed)) {
            return none(WRONG_NUMBER);
        }
        if (!endText(new ShoreReader(tape, draft).readAll(n))) {
            return none(HAS_FAULT);
        }
        Shore old = shore;
        shore = draft;
        draft = old;
        years.clear();
        return answer(shore.houseCount);
    }

    public int years(int n) {
        if (!within(n, 0, Math.min(tape.fed, YEARS_BYTES))) {
            return none(WRONG_NUMBER);
        }
        if (!endText(new YearsReader(tape, shore, draftYears).readAll(n))) {
            return none(HAS_FAULT);
        }
        Years old = years;
        years = draftYears;
        draftYears = old;
        return answer(years.steps);
    }

    /** The tape is empty behind a text that was read, be it taken or not. */
    private boolean endText(boolean taken) {
        tape.fed = 0;
        faultKind = tape.faultKind;
        faultPlace = tape.faultPlace;
        return taken;
    }

    public int fault(int what) {
        if (what == 0) {
            return faultKind;
        }
        return what == 1 ? faultPlace : NONE;
    }

    public int many(int what) {
        switch (what) {
            case 0:
                return answer(shore.houseCount);
            case 1:
                return answer(shore.gangCount);
            case 2:
                return answer(shore.windCount);
            case 3:
                return answer(shore.law);
            case 4:
                return answer(shore.minute);
            case 5:
                return answer(shore.standingSet());
            case 6:
                return answer(shore.offSet());
            case 7:
                return answer(shore.worthOf(shore.standingSet()));
            case 8:
                return answer(shore.worthOf(~shore.standingSet()));
            case 9:
                return answer(shore.allChances());
            default:
                return none(WRONG_NUMBER);
        }
    }

    public int house(int house, int what) {
        if (!isHouse(house)) {
            return none(NO_SUCH_THING);
        }
        House h = shore.houses[house];
        switch (what) {
            case 0:
                return answer(h.at);
            case 1:
                return answer(h.worth);
            case 2:
                return answer(h.pieces);
            case 3:
                return answer(h.weight);
            case 4:
                return answer(h.length);
            case 5:
                return answer(h.pegs);
            case 6:
                return answer(h.on);
            case 7:
                return answer(h.leastStrength());
            case 8:
                return answer(shore.dueOf(house));
            default:
                return none(WRONG_NUMBER);
        }
    }

    public int gang(int gang, int what) {
        if (!isGang(gang)) {
            return none(NO_SUCH_THING);
        }
        Gang g = shore.gangs[gang];
        switch (what) {
            case 0:
                return answer(g.home);
            case 1:
                return answer(g.hands);
            case 2:
                return answer(g.pace);
            case 3:
                return answer(g.at);
            case 4:
                return g.hand == NONE ? none(THERE_IS_NONE) : answer(g.hand);
            case 5:
                return answer(g.minutesLeft());
            default:
                return none(WRONG_NUMBER);
        }
    }

    public int wind(int wind, int what) {
        if (!within(wind, 0, shore.windCount - 1)) {
            return none(NO_SUCH_THING);
        }
        switch (what) {
            case 0:
                return answer(shore.winds[wind].strength);
            case 1:
                return answer(shore.winds[wind].chances);
            default:
                return none(WRONG_NUMBER);
        }
    }

    public int helped(int house, int by) {
        if (!isHouse(house) || !isHouse(by)) {
            return none(NO_SUCH_THING);
        }
        if (house == by) {
            return none(WRONG_NUMBER);
        }
        return answer(shore.debts[house][by]);
    }

    // ---- lifting

    public int takes(int gang, int house) {
        if (!isGang(gang) || !isHouse(house)) {
            return none(NO_SUCH_THING);
        }
        return answer(shore.gangs[gang].pieceMinutes(shore.houses[house]));
    }

    public int walk(int gang, int house) {
        if (!isGang(gang) || !isHouse(house)) {
            return none(NO_SUCH_THING);
        }
        return answer(shore.gangs[gang].wayMinutes(shore.houses[house]));
    }

    public int next(int gang) {
        if (!isGang(gang)) {
            return none(NO_SUCH_THING);
        }
        if (shore.gangs[gang].hand != NONE) {
            return none(CANNOT_BE);
        }
        int house = shore.firstByLaw(gang);
        return house == NONE ? none(THERE_IS_NONE) : answer(house);
    }

    public int lift(int gang, int house) {
        if (!isGang(gang) || !isHouse(house)) {
            return none(NO_SUCH_THING);
        }
        if (!shore.canTake(gang, house)) {
            return none(CANNOT_BE);
        }
        return answer(shore.take(gang, house));
    }

    public boolean rest(int gang) {
        if (!isGang(gang)) {
            return no(NO_SUCH_THING);
        }
        if (shore.gangs[gang].hand == NONE) {
            return no(THERE_IS_NONE);
        }
        shore.gangs[gang].putDown();
        return yes();
    }

    public int hour(int minutes) {
        if (!within(minutes, 1, LONGEST_HOUR)) {
            return none(WRONG_NUMBER);
        }
        if (shore.minute + minutes > LAST_MINUTE) {
            return none(ONE_TOO_MANY);
        }
        return answer(shore.passHour(minutes));
    }

    public int gale(int strength) {
        if (!within(strength, 0, STRONGEST)) {
            return none(WRONG_NUMBER);
        }
        return answer(shore.blow(strength));
    }

    public int dawn() {
        return answer(shore.breakDay());
    }

    public int help(int house, int by, int times) {
        if (!isHouse(house) || !isHouse(by)) {
            return none(NO_SUCH_THING);
        }
        if (house == by || !within(times, 1, 99)) {
            return none(WRONG_NUMBER);
        }
        if (shore.debts[house][by] + times > MOST_HELPED) {
            return none(ONE_TOO_MANY);
        }
        shore.debts[house][by] += times;
        return answer(shore.debts[house][by]);
    }

    // ---- what the gale takes

    public int falls(int strength) {
        if (!within(strength, 0, STRONGEST)) {
            return none(WRONG_NUMBER);
        }
        return answer(shore.fallingSet(strength));
    }

    public boolean risk(int house) {
        if (!isHouse(house)) {
            return no(NO_SUCH_THING);
        }
        if (shore.windCount == 0) {
            return no(THERE_IS_NONE);
        }
        return tellFraction(shore.chancesToFall(house), shore.allChances());
    }

    public boolean loss() {
        if (shore.windCount == 0) {
            return no(THERE_IS_NONE);
        }
        return tellFraction(shore.lossByChances(), shore.allChances());
    }

    public boolean saves(int minutes, int rain) {
        if (!within(minutes, 1, LONGEST_HOUR) || !within(rain, 0, 99)) {
            return no(WRONG_NUMBER);
        }
        if (shore.windCount == 0) {
            return no(THERE_IS_NONE);
        }
        draft.copyFrom(shore);
        int off = draft.passHour(minutes);
        int chances = shore.allChances();
        long saved = shore.lossByChances() - draft.lossByChances();
        return tellFraction(saved - (long) rain * off * chances, chances);
    }

    public int dearest() {
        int dearest = NONE;
        int most = NONE;
        for (int h = 0; h < shore.houseCount && shore.windCount > 0; h++) {
            int less = shore.houses[h].worth * shore.chancesToFall(h);
            if (shore.houses[h].isOpen() && less > most) {
                most = less;
                dearest = h;
            }
        }
        return dearest == NONE ? none(THERE_IS_NONE) : answer(dearest);
    }

    public int worstWind() {
        int worst = NONE;
        int most = NONE;
        for (int w = 0; w < shore.windCount; w++) {
            int fallen = shore.worthOf(shore.fallingSet(shore.winds[w].strength));
            if (fallen > most) {
                most = fallen;
                worst = w;
            }
        }
        return worst == NONE ? none(THERE_IS_NONE) : answer(worst);
    }

    // ---- the best order

    public int best(int gang, int minutes) {
        if (!isGang(gang)) {
            return none(NO_SUCH_THING);
        }
        if (!within(minutes, 0, LONGEST_HOUR)) {
            return none(WRONG_NUMBER);
        }
        foundSet = plans.worthiestSet(shore, gang, minutes);
        return answer(shore.worthOf(foundSet));
    }

    public int bestSet() {
        return foundSet == NONE ? none(THERE_IS_NONE) : answer(foundSet);
    }

    public int soonest(int gang, int set) {
        if (!isGang(gang)) {
            return none(NO_SUCH_THING);
        }
        if (set < 0 || set >= 1 << shore.houseCount) {
            return none(WRONG_NUMBER);
        }
        if ((set & ~shore.openSet()) != 0) {
            return none(CANNOT_BE);
        }
        plans.findOrder(shore, gang, set);
        return answer(plans.minutesFor(shore, gang, set));
    }

    public int order(int k) {
        return within(k, 0, plans.orderCount - 1) ? answer(plans.ordered[k]) : none(THERE_IS_NONE);
    }

    public int shared(int minutes) {
        if (!within(minutes, 0, LONGEST_HOUR)) {
            return none(WRONG_NUMBER);
        }
        plans.shareOut(shore);
        return answer(plans.mostShared(shore, minutes));
    }

    public int allOff() {
        plans.shareOut(shore);
        int minutes = plans.together[shore.openSet()];
        return minutes > LONGEST_ALL_OFF ? none(THERE_IS_NONE) : answer(minutes);
    }

    // ---- prophets, debts

    public int score(int told, int came, int n) {
        int why = whyNoScore(told, came, n);
        if (why != 0) {
            return none(why);
        }
        return answer(scoreOf(told, came, n));
    }

    public int words(int told, int came, int n) {
        int why = whyNoScore(told, came, n);
        if (why != 0) {
            return none(why);
        }
        return answer(scoreOfMean(came, n) - scoreOf(told, came, n));
    }

    private int whyNoScore(int told, int came, int n) {
        if (!trays.has(told) || !trays.has(came)) {
            return NO_TRAY;
        }
        if (trays.isMissing(told) || trays.isMissing(came)) {
            return TRAY_MISSING;
        }
        if (n > trays.lengths[told] || n > trays.lengths[came]) {
            return NO_PLACE;
        }
        if (n < 1 || !trays.areWithin(told, n, 100) || !trays.areWithin(came, n, 1)) {
            return WRONG_NUMBER;
        }
        return 0;
    }

    private int scoreOf(int told, int came, int n) {
        int score = 0;
        for (int i = 0; i < n; i++) {
            int off = (int) (trays.rows[told][i] - 100 * trays.rows[came][i]);
            score += off * off;
        }
        return score;
    }

    private int scoreOfMean(int came, int n) {
        int times = 0;
        for (int i = 0; i < n; i++) {
            times += (int) trays.rows[came][i];
        }
        int mean = 100 * times / Math.max(1, n);
        return times * (100 - mean) * (100 - mean) + (n - times) * mean * mean;
    }

    public int owed() {
        int owed = NONE;
        int most = 0;
        for (int h = 0; h < shore.houseCount; h++) {
            int due = shore.dueOf(h);
            if (owed == NONE || due > most) {
                most = due;
                owed = h;
            }
        }
        return owed == NONE ? none(THERE_IS_NONE) : answer(owed);
    }

    public int riders() {
        int set = 0;
        for (int h = 0; h < shore.houseCount; h++) {
            if (shore.timesHelped(h) > 0 && shore.timesHelping(h) == 0) {
                set |= 1 << h;
            }
        }
        return answer(set);
    }

    public int chain(int house) {
        if (!isHouse(house)) {
            return none(NO_SUCH_THING);
        }
        return answer(shore.chainFrom(house) & ~(1 << house));
    }

    public int quits(int a, int b) {
        if (!isHouse(a) || !isHouse(b)) {
            return none(NO_SUCH_THING);
        }
        if (a == b) {
            return none(WRONG_NUMBER);
        }
        return answer(shore.debts[a][b] - shore.debts[b][a]);
    }

    // ---- the ground, slates

    public int ground(int room) {
        if (!within(room, 1, 99)) {
            return none(WRONG_NUMBER);
        }
        int off = shore.offSet();
        for (int h = 0; h < shore.houseCount; h++) {
            if ((off >> h & 1) == 1 && shore.houses[h].length > room) {
                return none(CANNOT_BE);
            }
        }
        return answer(plans.fewestRows(shore, off, room));
    }

    public int signs(int tray, int n) {
        int why = trays.whyNot(tray, 0, Math.max(0, n));
        if (why != 0) {
            return none(why);
        }
        if (n < 1) {
            return none(WRONG_NUMBER);
        }
        if (!trays.areWithin(tray, n, shore.houseCount - 1)) {
            return none(NO_SUCH_THING);
        }
        int over = 0;
        for (int h = 0; h < shore.houseCount; h++) {
            over += Math.max(0, trays.timesOf(tray, n, h) - shore.houses[h].pieces);
        }
        return answer(over);
    }

    public int flown(int tray) {
        int why = whyNotFlown(tray);
        return why == 0 ? answer(windsThatFit(tray)) : none(why);
    }

    public int likeliest(int tray) {
        int why = whyNotFlown(tray);
        if (why != 0) {
            return none(why);
        }
        int set = windsThatFit(tray);
        int likeliest = NONE;
        int most = 0;
        for (int w = 0; w < shore.windCount; w++) {
            if ((set >> w & 1) == 1 && shore.winds[w].chances > most) {
                most = shore.winds[w].chances;
                likeliest = w;
            }
        }
        return likeliest == NONE ? none(THERE_IS_NONE) : answer(likeliest);
    }

    private int whyNotFlown(int tray) {
        int why = trays.whyNot(tray, 0, shore.houseCount);
        if (why == 0 && !trays.areWithin(tray, shore.houseCount, 1)) {
            why = WRONG_NUMBER;
        }
        return why;
    }

    private int windsThatFit(int tray) {
        int told = 0;
        for (int h = 0; h < shore.houseCount; h++) {
            told |= (int) trays.rows[tray][h] << h;
        }
        // what fell ahead tells nothing of this wind
        told &= shore.standingSet();
        int set = 0;
        for (int w = 0; w < shore.windCount; w++) {
            if (shore.fallingSet(shore.winds[w].strength) == told) {
                set |= 1 << w;
            }
        }
        return set;
    }

    public int neighbour(int house) {
        if (!isHouse(house)) {
            return none(NO_SUCH_THING);
        }
        int nearest = NONE;
        int least = 0;
        for (int h = 0; h < shore.houseCount; h++) {
            int away = Math.abs(shore.houses[h].at - shore.houses[house].at);
            if (h != house && shore.houses[h].stands && (nearest == NONE || away < least)) {
                least = away;
                nearest = h;
            }
        }
        return nearest == NONE ? none(THERE_IS_NONE) : answer(nearest);
    }

    // ---- YEARS

    public int live(int seed) {
        if (!within(seed, 0, LAST_SEED)) {
            return none(WRONG_NUMBER);
        }
        if (!years.there) {
            return none(THERE_IS_NONE);
        }
        life.run(shore, years, seed);
        hasLived = true;
        return answer(life.steps);
    }

    public int lived(int what) {
        if (!within(what, 0, 4)) {
            return none(WRONG_NUMBER);
        }
        if (!hasLived) {
            return none(THERE_IS_NONE);
        }
        switch (what) {
            case 0:
                return answer(life.missed);
            case 1:
                return answer(life.minutes);
            case 2:
                return answer(life.roofs);
            case 3:
                return answer(life.fallen);
            default:
                return answer(life.leftOver);
        }
    }

    public boolean mean(int seed, int many) {
        if (!within(seed, 0, LAST_SEED) || !within(many, 1, 20) || seed + many - 1 > LAST_SEED) {
            return no(WRONG_NUMBER);
        }
        if (!years.there) {
            return no(THERE_IS_NONE);
        }
        int worth = 0;
        for (int i = 0; i < many; i++) {
            draft.copyFrom(shore);
            triedLife.run(draft, years, seed + i);
            worth += draft.worthOf(draft.standingSet());
        }
        return tellFraction(worth, many);
    }

    // ---- MARKS

    public int mark() {
        if (marks >= MOST_MARKS) {
            return none(ONE_TOO_MANY);
        }
        markedShores[marks].copyFrom(shore);
        markedYears[marks].copyFrom(years);
        marks++;
        return answer(marks);
    }

    public int back() {
        if (marks <= 0) {
            return none(THERE_IS_NONE);
        }
        marks--;
        shore.copyFrom(markedShores[marks]);
        years.copyFrom(markedYears[marks]);
        return answer(marks);
    }

    /** The four rows of numbers. */
    private static final class Trays {
        private static final int MANY = 4;
        private static final int LAST_SORT = 3;
        private static final int LONGEST = 60;

        private final long[][] rows = new long[MANY][LONGEST];
        private final int[] sorts = new int[MANY];
        /** NONE of a tray that is missing. */
        private final int[] lengths = new int[MANY];

        private Trays() {
            for (int t = 0; t < MANY; t++) {
                lengths[t] = NONE;
            }
        }

        private boolean has(int tray) {
            return tray >= 0 && tray < MANY;
        }

        private boolean isMissing(int tray) {
            return lengths[tray] == NONE;
        }

        private boolean reaches(int tray, int from, int count) {
            return from >= 0 && count <= lengths[tray] && from <= lengths[tray] - count;
        }

        /** The status that keeps a call from so many numbers of a tray, 0 if none does. */
        private int whyNot(int tray, int from, int count) {
            if (!has(tray)) {
                return NO_TRAY;
            }
            if (isMissing(tray)) {
                return TRAY_MISSING;
            }
            return reaches(tray, from, count) ? 0 : NO_PLACE;
        }

        private void lay(int tray, int sort, int count) {
            sorts[tray] = sort;
            lengths[tray] = count;
            for (int i = 0; i < LONGEST; i++) {
                rows[tray][i] = 0;
            }
        }

        private void put(int tray, int place, long number) {
            switch (sorts[tray]) {
                case 0:
                    rows[tray][place] = (byte) number;
                    break;
                case 1:
                    rows[tray][place] = (short) number;
                    break;
                case 2:
                    rows[tray][place] = (int) number;
                    break;
                default:
                    rows[tray][place] = number;
            }
        }

        private boolean areWithin(int tray, int count, int most) {
            for (int i = 0; i < count; i++) {
                if (rows[tray][i] < 0 || rows[tray][i] > most) {
                    return false;
                }
            }
            return true;
        }

        private int timesOf(int tray, int count, int number) {
            int times = 0;
            for (int i = 0; i < count; i++) {
                if (rows[tray][i] == number) {
                    times++;
                }
            }
            return times;
        }
    }

    private static final class House {
        private long name;
        private int at;
        private int worth;
        private int pieces;
        private int weight;
        private int length;
        private int pegs;
        /** Pieces of the roof that are on; a house that fell keeps what it had. */
        private int on;
        private boolean stands;

        private void copyFrom(House other) {
            name = other.name;
            at = other.at;
            worth = other.worth;
            pieces = other.pieces;
            weight = other.weight;
            length = other.length;
            pegs = other.pegs;
            on = other.on;
            stands = other.stands;
        }

        /** Whether a gale may take it and a gang may lift from it. */
        private boolean isOpen() {
            return stands && on > 0;
        }

        private int leastStrength() {
            return 11 + weight + 3 * pegs;
        }
    }

    private static final class Gang {
        private long name;
        private int home;
        private int hands;
        private int pace;
        private int at;
        /** The house at hand, or NONE. */
        private int hand;
        /** Minutes left of its way, then of its piece; both 0 without a house at hand. */
        private int way;
        private int piece;

        private void copyFrom(Gang other) {
            name = other.name;
            home = other.home;
            hands = other.hands;
            pace = other.pace;
            at = other.at;
            hand = other.hand;
            way = other.way;
            piece = other.piece;
        }

        private int pieceMinutes(House house) {
            int divisor = Math.max(1, hands);
            return Math.max(1, ((house.weight + house.pegs) * 4 + divisor - 1) / divisor);
        }

        private int wayMinutes(House house) {
            return pace * Math.abs(at - house.at);
        }

        private int minutesLeft() {
            return way + piece;
        }

        private void putDown() {
            hand = NONE;
            way = 0;
            piece = 0;
        }

        /** Does so many minutes, none of which may be the last of its piece, but the latest. */
        private void work(int minutes) {
            int walked = Math.min(way, minutes);
            way -= walked;
            piece -= minutes - walked;
        }
    }

    private static final class Wind {
        private long name;
        private int strength;
        private int chances;

        private void copyFrom(Wind other) {
            name = other.name;
            strength = other.strength;
            chances = other.chances;
        }
    }

    /** The houses, gangs, winds and debts of a shore, and what became of them. */
    private static final class Shore {
        private final House[] houses = new House[MOST_HOUSES];
        private final Gang[] gangs = new Gang[MOST_GANGS];
        private final Wind[] winds = new Wind[MOST_WINDS];
        private int houseCount;
        private int gangCount;
        private int windCount;
        /** How often the first house was helped by the second. */
        private final int[][] debts = new int[MOST_HOUSES][MOST_HOUSES];
        private int law = LAW_TOLD;
        private int minute;

        private Shore() {
            for (int h = 0; h < MOST_HOUSES; h++) {
                houses[h] = new House();
            }
            for (int g = 0; g < MOST_GANGS; g++) {
                gangs[g] = new Gang();
            }
            for (int w = 0; w < MOST_WINDS; w++) {
                winds[w] = new Wind();
            }
        }

        private void clear() {
            houseCount = 0;
            gangCount = 0;
            windCount = 0;
            law = LAW_TOLD;
            minute = 0;
            for (int h = 0; h < MOST_HOUSES; h++) {
                for (int by = 0; by < MOST_HOUSES; by++) {
                    debts[h][by] = 0;
                }
            }
        }

        private void copyFrom(Shore other) {
            houseCount = other.houseCount;
            gangCount = other.gangCount;
            windCount = other.windCount;
            law = other.law;
            minute = other.minute;
            for (int h = 0; h < houseCount; h++) {
                houses[h].copyFrom(other.houses[h]);
                System.arraycopy(other.debts[h], 0, debts[h], 0, MOST_HOUSES);
            }
            for (int g = 0; g < gangCount; g++) {
                gangs[g].copyFrom(other.gangs[g]);
            }
            for (int w = 0; w < windCount; w++) {
                winds[w].copyFrom(other.winds[w]);
            }
        }

        private int houseNamed(long name) {
            for (int h = 0; h < houseCount; h++) {
                if (houses[h].name == name) {
                    return h;
                }
            }
            return NONE;
        }

        private int gangNamed(long name) {
            for (int g = 0; g < gangCount; g++) {
                if (gangs[g].name == name) {
                    return g;
                }
            }
            return NONE;
        }

        private boolean isTaken(long name) {
            for (int w = 0; w < windCount; w++) {
                if (winds[w].name == name) {
                    return true;
                }
            }
            return houseNamed(name) != NONE || gangNamed(name) != NONE;
        }

        private int standingSet() {
            int set = 0;
            for (int h = 0; h < houseCount; h++) {
                if (houses[h].stands) {
                    set |= 1 << h;
                }
            }
            return set;
        }

        private int openSet() {
            int set = 0;
            for (int h = 0; h < houseCount; h++) {
                if (houses[h].isOpen()) {
                    set |= 1 << h;
                }
            }
            return set;
        }

        private int offSet() {
            return standingSet() & ~openSet();
        }

        private int fallingSet(int strength) {
            int set = 0;
            for (int h = 0; h < houseCount; h++) {
                if (houses[h].isOpen() && strength >= houses[h].leastStrength()) {
                    set |= 1 << h;
                }
            }
            return set;
        }

        private int worthOf(int set) {
            int worth = 0;
            for (int h = 0; h < houseCount; h++) {
                if ((set >> h & 1) == 1) {
                    worth += houses[h].worth;
                }
            }
            return worth;
        }

        private int allChances() {
            int chances = 0;
            for (int w = 0; w < windCount; w++) {
                chances += winds[w].chances;
            }
            return chances;
        }

        private int chancesToFall(int house) {
            int chances = 0;
            for (int w = 0; w < windCount; w++) {
                if (houses[house].isOpen() && winds[w].strength >= houses[house].leastStrength()) {
                    chances += winds[w].chances;
                }
            }
            return chances;
        }

        /** The mean of the worth that falls, times all chances. */
        private int lossByChances() {
            int sum = 0;
            for (int h = 0; h < houseCount; h++) {
                sum += houses[h].worth * chancesToFall(h);
            }
            return sum;
        }

        private int timesHelped(int house) {
            int times = 0;
            for (int by = 0; by < houseCount; by++) {
                times += debts[house][by];
            }
            return times;
        }

        private int timesHelping(int by) {
            int times = 0;
            for (int h = 0; h < houseCount; h++) {
                times += debts[h][by];
            }
            return times;
        }

        private int dueOf(int house) {
            int due = 0;
            for (int other = 0; other < houseCount; other++) {
                due += debts[other][house] - debts[house][other];
            }
            return due;
        }

        /** The houses that one helped, that these helped, and so on, with the one itself. */
        private int chainFrom(int house) {
            int set = 1 << house;
            for (int round = 0; round < houseCount; round++) {
                int before = set;
                for (int by = 0; by < houseCount; by++) {
                    for (int h = 0; h < houseCount; h++) {
                        if ((before >> by & 1) == 1 && debts[h][by] > 0) {
                            set |= 1 << h;
                        }
                    }
                }
            }
            return set;
        }

        private boolean canTake(int gang, int house) {
            if (!houses[house].isOpen()) {
                return false;
            }
            for (int g = 0; g < gangCount; g++) {
                if (g != gang && gangs[g].hand == house) {
                    return false;
                }
            }
            return true;
        }

        /** The house that a gang is to take first, or NONE. */
        private int firstByLaw(int gang) {
            int first = NONE;
            int most = 0;
            for (int h = 0; h < houseCount; h++) {
                if (canTake(gang, h)) {
                    int rank = rankByLaw(gang, h);
                    if (first == NONE || rank > most) {
                        most = rank;
                        first = h;
                    }
                }
            }
            return first;
        }

        private int rankByLaw(int gang, int house) {
            switch (law) {
                case LAW_WORTH:
                    return houses[house].worth;
                case LAW_OWED:
                    return dueOf(house);
                case LAW_NEAR:
                    return -Math.abs(gangs[gang].at - houses[house].at);
                default:
                    return 0;
            }
        }

        /** A gang takes a house at hand: the minutes of its way. */
        private int take(int gang, int house) {
            Gang g = gangs[gang];
            g.way = g.wayMinutes(houses[house]);
            g.piece = g.pieceMinutes(houses[house]);
            g.hand = house;
            g.at = houses[house].at;
            return g.way;
        }

        /** How many roofs came off whole. */
        private int passHour(int minutes) {
            int off = 0;
            for (int left = minutes; left > 0; left--) {
                for (int g = 0; g < gangCount; g++) {
                    off += passMinute(g);
                }
                int quiet = quietMinutes(left - 1);
                for (int g = 0; g < gangCount; g++) {
                    if (gangs[g].hand != NONE) {
                        gangs[g].work(quiet);
                    }
                }
                left -= quiet;
            }
            minute += minutes;
            return off;
        }

        /**
         * In how many minutes from now, at most so many, no gang takes a house and no piece comes off.
         * They are passed at once, because years may hold many long hours.
         */
        private int quietMinutes(int most) {
            int quiet = most;
            for (int g = 0; g < gangCount; g++) {
                if (gangs[g].hand != NONE) {
                    quiet = Math.min(quiet, Math.max(0, gangs[g].minutesLeft() - 1));
                } else if (firstByLaw(g) != NONE) {
                    quiet = 0;
                }
            }
            return quiet;
        }

        /** A minute of one gang: 1 if a roof came off whole in it. */
        private int passMinute(int gang) {
            Gang g = gangs[gang];
            if (g.hand == NONE) {
                int house = firstByLaw(gang);
                if (house == NONE) {
                    return 0;
                }
                take(gang, house);
            }
            g.work(1);
            return g.minutesLeft() > 0 ? 0 : pieceComesOff(gang, g.hand);
        }

        private int pieceComesOff(int gang, int house) {
            Gang g = gangs[gang];
            houses[house].on--;
            if (houses[house].on > 0) {
                g.piece = g.pieceMinutes(houses[house]);
                return 0;
            }
            if (g.home != house) {
                debts[house][g.home] = Math.min(MOST_HELPED, debts[house][g.home] + 1);
            }
            g.putDown();
            return 1;
        }

        /** How many houses fall. */
        private int blow(int strength) {
            int set = fallingSet(strength);
            for (int h = 0; h < houseCount; h++) {
                if ((set >> h & 1) == 1) {
                    houses[h].stands = false;
                }
            }
            for (int g = 0; g < gangCount; g++) {
                int hand = gangs[g].hand;
                if (hand != NONE && (set >> hand & 1) == 1) {
                    gangs[g].putDown();
                }
            }
            return Integer.bitCount(set);
        }

        /** How many roofs were not wholly on. */
        private int breakDay() {
            int lifted = 0;
            for (int h = 0; h < houseCount; h++) {
                House house = houses[h];
                if (house.stands && house.on < house.pieces) {
                    house.on = house.pieces;
                    lifted++;
                }
            }
            for (int g = 0; g < gangCount; g++) {
                gangs[g].putDown();
            }
            minute = 0;
            return lifted;
        }
    }

    /** The bytes that were fed, and the token of them at which reading stands. */
    private static final class Tape {
        private static final int END = 0;
        private static final int BAD = 1;
        private static final int WORD = 2;
        private static final int NUMBER = 3;
        private static final int SIGN = 4;
        private static final int LONGEST_NAME = 8;
        private static final int LONGEST_NUMBER = 4;

        private final byte[] bytes = new byte[TAPE_BYTES];
        private int fed;
        /** The names that the words of the language would have. */
        private final long[] wordNames = new long[MANY_WORDS];
        private int length;
        private int at;
        private int kind;
        private int start;
        /** Which word of the language the token is, or NONE. */
        private int word;
        /** The letters of a word of at most 8 letters as one number, else NONE. */
        private long name;
        private int number;
        private char sign;
        /** The number that was taken latest. */
        private int value;
        private int faultKind;
        private int faultPlace;

        private Tape() {
            int w = 0;
            long letters = 0;
            for (int i = 0; i < WORDS.length() && w < MANY_WORDS; i++) {
                if (WORDS.charAt(i) == ' ') {
                    wordNames[w] = letters;
                    w++;
                    letters = 0;
                } else {
                    letters = letters * 27 + WORDS.charAt(i) - 'a' + 1;
                }
            }
        }

        private void put(int four) {
            for (int shift = 24; shift >= 0 && fed < TAPE_BYTES; shift -= 8) {
                bytes[fed] = (byte) (four >> shift);
                fed++;
            }
        }

        private void open(int n) {
            length = n;
            at = 0;
            faultKind = 0;
            faultPlace = NONE;
            step();
        }

        /** Goes on to the token behind. */
        private void step() {
            while (at < length && (bytes[at] == ' ' || bytes[at] == '\n')) {
                at++;
            }
            start = at;
            word = NONE;
            name = NONE;
            kind = END;
            readWord();
            if (kind == END) {
                readNumber();
            }
            if (kind == END && at < length) {
                readSign();
            }
        }

        /** Nothing, if no letter stands there. */
        private void readWord() {
            long letters = 0;
            while (at < length && bytes[at] >= 'a' && bytes[at] <= 'z') {
                letters = letters * 27 + bytes[at] - 'a' + 1;
                at++;
            }
            if (at > start) {
                kind = WORD;
            }
            if (at == start || at - start > LONGEST_NAME) {
                return;
            }
            name = letters;
            for (int w = 0; w < MANY_WORDS; w++) {
                if (wordNames[w] == letters) {
                    word = w;
                }
            }
        }

        /** Nothing, if no digit stands there. */
        private void readNumber() {
            number = 0;
            while (at < length && bytes[at] >= '0' && bytes[at] <= '9') {
                number = number * 10 + bytes[at] - '0';
                at++;
            }
            if (at > start) {
                kind = at - start > LONGEST_NUMBER ? BAD : NUMBER;
            }
        }

        private void readSign() {
            sign = (char) (bytes[at] & 255);
            boolean known = sign == ';' || sign == '<' || sign == '>' || sign == '=';
            kind = known ? SIGN : BAD;
            at++;
        }

        /** Notes a fault of the token; always false, so that a reader can end with it. */
        private boolean fail(int fault) {
            return failAt(kind == BAD ? 1 : fault, start);
        }

        private boolean failAt(int fault, int place) {
            faultKind = fault;
            faultPlace = place;
            return false;
        }

        private boolean isName() {
            return kind == WORD && name != NONE && word == NONE;
        }

        private boolean takeWord(int due) {
            if (word != due) {
                return fail(2);
            }
            step();
            return true;
        }

        private boolean takeSemicolon() {
            if (kind != SIGN || sign != ';') {
                return fail(2);
            }
            step();
            return true;
        }

        /** A number within bounds: it is the value then. */
        private boolean takeNumber(int least, int most) {
            if (kind != NUMBER) {
                return fail(2);
            }
            if (number < least || number > most) {
                return fail(4);
            }
            value = number;
            step();
            return true;
        }

        private boolean takeWordAndNumber(int due, int least, int most) {
            return takeWord(due) && takeNumber(least, most);
        }

        /** The house (or gang, by its word) that is named, or NONE behind a fault. */
        private int takeNamed(Shore shore, int what) {
            int thing = NONE;
            if (isName()) {
                thing = what == W_GANG ? shore.gangNamed(name) : shore.houseNamed(name);
            }
            if (thing == NONE) {
                fail(isName() ? 3 : 2);
            } else {
                step();
            }
            return thing;
        }
    }

    /** Reads a shore from the tape. */
    private static final class ShoreReader {
        private final Tape tape;
        private final Shore into;
        private boolean lawTold;

        private ShoreReader(Tape tape, Shore into) {
            this.tape = tape;
            this.into = into;
        }

        private boolean readAll(int n) {
            into.clear();
            tape.open(n);
            for (int part = 0; part < TAPE_BYTES && tape.kind != Tape.END; part++) {
                boolean read;
                switch (tape.word) {
                    case W_HOUSE:
                        read = readHouse();
                        break;
                    case W_GANG:
                        read = readGang();
                        break;
                    case W_HELPED:
                        read = readHelped();
                        break;
                    case W_WIND:
                        read = readWind();
                        break;
                    case W_LAW:
                        read = readLaw();
                        break;
                    default:
                        read = tape.fail(2);
                }
                if (!read || !tape.takeSemicolon()) {
                    return false;
                }
            }
            return true;
        }

        /** The name of a new thing; NONE behind a fault. */
        private long readNewName() {
            if (!tape.isName()) {
                tape.fail(2);
                return NONE;
            }
            if (into.isTaken(tape.name)) {
                tape.fail(3);
                return NONE;
            }
            long name = tape.name;
            tape.step();
            return name;
        }

        private boolean readHouse() {
            if (into.houseCount >= MOST_HOUSES) {
                return tape.fail(6);
            }
            House house = into.houses[into.houseCount];
            tape.step();
            house.name = readNewName();
            if (house.name == NONE || !tape.takeWordAndNumber(W_AT, 0, 60)) {
                return false;
            }
            house.at = tape.value;
            if (!tape.takeWordAndNumber(W_WORTH, 0, 999)) {
                return false;
            }
            house.worth = tape.value;
            if (!tape.takeWordAndNumber(W_PIECES, 1, 9)) {
                return false;
            }
            house.pieces = tape.value;
            if (!tape.takeWordAndNumber(W_WEIGHT, 1, 20)) {
                return false;
            }
            house.weight = tape.value;
            house.on = house.pieces;
            house.stands = true;
            into.houseCount++;
            return readLongAndPegs(house);
        }

        private boolean readLongAndPegs(House house) {
            house.length = 4;
            house.pegs = 0;
            if (tape.word == W_LONG) {
                if (!tape.takeWordAndNumber(W_LONG, 1, 20)) {
                    return false;
                }
                house.length = tape.value;
            }
            if (tape.word == W_PEGS) {
                if (!tape.takeWordAndNumber(W_PEGS, 0, 9)) {
                    return false;
                }
                house.pegs = tape.value;
            }
            return true;
        }

        private boolean readGang() {
            if (into.gangCount >= MOST_GANGS) {
                return tape.fail(6);
            }
            Gang gang = into.gangs[into.gangCount];
            tape.step();
            gang.name = readNewName();
            if (gang.name == NONE || !tape.takeWord(W_OF)) {
                return false;
            }
            int home = tape.takeNamed(into, W_HOUSE);
            if (home == NONE || !tape.takeWordAndNumber(W_HANDS, 1, 40)) {
                return false;
            }
            gang.home = home;
            gang.at = into.houses[home].at;
            gang.hands = tape.value;
            gang.pace = 1;
            gang.putDown();
            into.gangCount++;
            if (tape.word == W_PACE) {
                if (!tape.takeWordAndNumber(W_PACE, 0, 9)) {
                    return false;
                }
                gang.pace = tape.value;
            }
            return true;
        }

        private boolean readHelped() {
            tape.step();
            int house = tape.takeNamed(into, W_HOUSE);
            if (house == NONE || !tape.takeWord(W_BY)) {
                return false;
            }
            int place = tape.start;
            int by = tape.takeNamed(into, W_HOUSE);
            if (by == NONE) {
                return false;
            }
            if (by == house) {
                return tape.failAt(5, place);
            }
            if (!tape.takeNumber(0, 99)) {
                return false;
            }
            into.debts[house][by] = tape.value;
            return true;
        }

        private boolean readWind() {
            if (into.windCount >= MOST_WINDS) {
                return tape.fail(6);
            }
            Wind wind = into.winds[into.windCount];
            tape.step();
            wind.name = readNewName();
            if (wind.name == NONE || !tape.takeNumber(0, STRONGEST)) {
                return false;
            }
            wind.strength = tape.value;
            if (!tape.takeWordAndNumber(W_OF, 1, 99)) {
                return false;
            }
            wind.chances = tape.value;
            into.windCount++;
            return true;
        }

        private boolean readLaw() {
            if (lawTold) {
                return tape.fail(5);
            }
            lawTold = true;
            tape.step();
            switch (tape.word) {
                case W_WORTH:
                    into.law = LAW_WORTH;
                    break;
                case W_OWED:
                    into.law = LAW_OWED;
                    break;
                case W_NEAR:
                    into.law = LAW_NEAR;
                    break;
                case W_TOLD:
                    into.law = LAW_TOLD;
                    break;
                default:
                    return tape.fail(2);
            }
            tape.step();
            return true;
        }
    }

    /** The steps of the years as rows, one place for each step and each end. */
    private static final class Years {
        private static final int ROWS = 2 * MOST_STEPS;

        private boolean there;
        private int steps;
        private int count;
        /** The word of the step. */
        private final int[] kinds = new int[ROWS];
        /** Its number or its house. */
        private final int[] firsts = new int[ROWS];
        /** Its gang, or the word of its test. */
        private final int[] seconds = new int[ROWS];
        /** The sign by which its test compares. */
        private final int[] compares = new int[ROWS];
        /** Of when and loop the place of their end, of an end that of its beginning. */
        private final int[] partners = new int[ROWS];

        private void clear() {
            there = false;
            steps = 0;
            count = 0;
        }

        private void copyFrom(Years other) {
            there = other.there;
            steps = other.steps;
            count = other.count;
            System.arraycopy(other.kinds, 0, kinds, 0, ROWS);
            System.arraycopy(other.firsts, 0, firsts, 0, ROWS);
            System.arraycopy(other.seconds, 0, seconds, 0, ROWS);
            System.arraycopy(other.compares, 0, compares, 0, ROWS);
            System.arraycopy(other.partners, 0, partners, 0, ROWS);
        }
    }

    /** Reads years from the tape. */
    private static final class YearsReader {
        private final Tape tape;
        private final Shore shore;
        private final Years into;
        private final int[] opened = new int[MOST_NESTED];
        private int depth;

        private YearsReader(Tape tape, Shore shore, Years into) {
            this.tape = tape;
            this.shore = shore;
            this.into = into;
        }

        private boolean readAll(int n) {
            into.clear();
            tape.open(n);
            for (int step = 0; step < YEARS_BYTES && tape.kind != Tape.END; step++) {
                if (!readStepOrEnd() || !tape.takeSemicolon()) {
                    return false;
                }
                into.count++;
            }
            into.there = true;
            return depth == 0 || tape.fail(2);
        }

        private boolean readStepOrEnd() {
            int kind = tape.word;
            if (kind == W_END) {
                return readEnd();
            }
            boolean opens = kind == W_WHEN || kind == W_LOOP;
            boolean begins = opens || kind == W_STOP || kind >= W_HOUR && kind <= W_LIFT;
            if (!begins) {
                return tape.fail(2);
            }
            if (into.steps >= MOST_STEPS || into.count >= Years.ROWS) {
                return tape.fail(6);
            }
            if (opens && depth >= MOST_NESTED) {
                return tape.fail(7);
            }
            into.steps++;
            into.kinds[into.count] = kind;
            if (opens) {
                opened[depth] = into.count;
                depth++;
            }
            tape.step();
            return readRest(kind, into.count);
        }

        private boolean readEnd() {
            if (depth <= 0 || into.count >= Years.ROWS) {
                return tape.fail(2);
            }
            depth--;
            into.kinds[into.count] = W_END;
            into.partners[into.count] = opened[depth];
            into.partners[opened[depth]] = into.count;
            tape.step();
            return true;
        }

        /** What stands between the word of a step and its semicolon. */
        private boolean readRest(int kind, int row) {
            switch (kind) {
                case W_HOUR:
                    return readCount(row, LONGEST_HOUR);
                case W_LOOP:
                    return readCount(row, 99);
                case W_LIFT:
                    into.firsts[row] = tape.takeNamed(shore, W_HOUSE);
                    if (into.firsts[row] == NONE || !tape.takeWord(W_WITH)) {
                        return false;
                    }
                    into.seconds[row] = tape.takeNamed(shore, W_GANG);
                    return into.seconds[row] != NONE;
                case W_REST:
                    into.seconds[row] = tape.takeNamed(shore, W_GANG);
                    return into.seconds[row] != NONE;
                case W_WHEN:
                    return readTest(row);
                default:
                    return true;
            }
        }

        private boolean readCount(int row, int most) {
            boolean read = tape.takeNumber(1, most);
            into.firsts[row] = tape.value;
            return read;
        }

        private boolean readTest(int row) {
            int test = tape.word;
            into.seconds[row] = test;
            if (test == W_OFF || test == W_STANDS) {
                tape.step();
                into.firsts[row] = tape.takeNamed(shore, W_HOUSE);
                return into.firsts[row] != NONE;
            }
            if (!tape.takeWord(W_WORTH)) {
                return false;
            }
            if (tape.kind != Tape.SIGN || tape.sign == ';') {
                return tape.fail(2);
            }
            into.compares[row] = tape.sign;
            tape.step();
            boolean read = tape.takeNumber(0, 9999);
            into.firsts[row] = tape.value;
            return read;
        }
    }

    /** Years as they are lived by a seed, and what came of them. */
    private static final class Life {
        /** Far above the steps and ends that 300 steps can come to. */
        private static final int GUARD = 1000000;

        private int steps;
        private int missed;
        private int minutes;
        private int roofs;
        private int fallen;
        private int leftOver;
        private int drawn;
        /** Of each loop how often it is still to be done. */
        private final int[] rounds = new int[Years.ROWS];

        private void run(Shore shore, Years years, int seed) {
            steps = 0;
            missed = 0;
            minutes = 0;
            roofs = 0;
            fallen = 0;
            leftOver = 0;
            drawn = seed;
            int at = 0;
            for (int guard = 0; guard < GUARD && at < years.count; guard++) {
                if (years.kinds[at] == W_END) {
                    at = behindEnd(years, at);
                } else if (steps >= MOST_LIVED) {
                    leftOver = 1;
                    at = years.count;
                } else {
                    steps++;
                    at = doStep(shore, years, at);
                }
            }
        }

        private int behindEnd(Years years, int at) {
            int opener = years.partners[at];
            if (years.kinds[opener] == W_LOOP && rounds[opener] > 1) {
                rounds[opener]--;
                return opener + 1;
            }
            return at + 1;
        }

        /** Does a step: the place of what comes behind it. */
        private int doStep(Shore shore, Years years, int at) {
            int first = years.firsts[at];
            switch (years.kinds[at]) {
                case W_HOUR:
                    if (shore.minute + first > LAST_MINUTE) {
                        missed++;
                    } else {
                        roofs += shore.passHour(first);
                        minutes += first;
                    }
                    break;
                case W_GALE:
                    doGale(shore);
                    break;
                case W_DAWN:
                    shore.breakDay();
                    break;
                case W_LIFT:
                    doLift(shore, first, years.seconds[at]);
                    break;
                case W_REST:
                    shore.gangs[years.seconds[at]].putDown();
                    break;
                case W_WHEN:
                    return holds(shore, years, at) ? at + 1 : years.partners[at] + 1;
                case W_LOOP:
                    rounds[at] = first;
                    break;
                default:
                    return years.count;
            }
            return at + 1;
        }

        private void doGale(Shore shore) {
            if (shore.windCount == 0) {
                missed++;
                return;
            }
            int chance = draw(shore.allChances());
            int w = 0;
            while (w < shore.windCount - 1 && chance >= shore.winds[w].chances) {
                chance -= shore.winds[w].chances;
                w++;
            }
            fallen += shore.blow(shore.winds[w].strength);
        }

        private void doLift(Shore shore, int house, int gang) {
            if (shore.canTake(gang, house)) {
                shore.take(gang, house);
            } else {
                missed++;
            }
        }

        private boolean holds(Shore shore, Years years, int at) {
            int first = years.firsts[at];
            if (years.seconds[at] == W_OFF) {
                return shore.houses[first].on == 0;
            }
            if (years.seconds[at] == W_STANDS) {
                return shore.houses[first].stands;
            }
            int worth = shore.worthOf(shore.standingSet());
            switch (years.compares[at]) {
                case '<':
                    return worth < first;
                case '>':
                    return worth > first;
                default:
                    return worth == first;
            }
        }

        private int draw(int n) {
            drawn = (drawn * 2909 + 10597) % 65536;
            return drawn / 8 % Math.max(1, n);
        }
    }

    /** Which houses to lift, in which order, by whom; and where their roofs lie. */
    private static final class Plans {
        private final int[] ordered = new int[MOST_HOUSES];
        private int orderCount;
        /** By sets of houses: the minutes in which one gang, all gangs so far, can get them off. */
        private final int[] alone = new int[SETS];
        private final int[] together = new int[SETS];

        /**
         * The shortest way from a place to all houses of a set. The shore is a line: who goes to its one
         * end first and then to the other comes by all that lie between.
         */
        private int shortestWay(Shore shore, int from, int set) {
            int low = from;
            int high = from;
            for (int h = 0; h < shore.houseCount; h++) {
                if ((set >> h & 1) == 1) {
                    low = Math.min(low, shore.houses[h].at);
                    high = Math.max(high, shore.houses[h].at);
                }
            }
            return high - low + Math.min(from - low, high - from);
        }

        private int minutesFor(Shore shore, int gang, int set) {
            Gang g = shore.gangs[gang];
            int minutes = g.pace * shortestWay(shore, g.at, set);
            for (int h = 0; h < shore.houseCount; h++) {
                if ((set >> h & 1) == 1) {
                    minutes += shore.houses[h].on * g.pieceMinutes(shore.houses[h]);
                }
            }
            return minutes;
        }

        private int worthiestSet(Shore shore, int gang, int minutes) {
            int open = shore.openSet();
            int best = 0;
            int most = 0;
            for (int set = 1; set <= open; set++) {
                if ((set & ~open) != 0) {
                    continue;
                }
                int worth = shore.worthOf(set);
                boolean better = worth > most || worth == most && Integer.bitCount(set) < Integer.bitCount(best);
                if (better && minutesFor(shore, gang, set) <= minutes) {
                    best = set;
                    most = worth;
                }
            }
            return best;
        }

        /** The first by numbers of the orders in which a gang has a set off soonest. */
        private void findOrder(Shore shore, int gang, int set) {
            int pace = shore.gangs[gang].pace;
            int from = shore.gangs[gang].at;
            int left = set;
            orderCount = 0;
            for (int k = 0; k < MOST_HOUSES && left != 0; k++) {
                int house = firstOnShortestWay(shore, pace, from, left);
                ordered[k] = house;
                orderCount++;
                from = shore.houses[house].at;
                left &= ~(1 << house);
            }
        }

        private int firstOnShortestWay(Shore shore, int pace, int from, int set) {
            int shortest = shortestWay(shore, from, set);
            int h = 0;
            while (h < shore.houseCount - 1 && !beginsShortest(shore, h, pace, from, set, shortest)) {
                h++;
            }
            return h;
        }

        private boolean beginsShortest(Shore shore, int house, int pace, int from, int set, int shortest) {
            if ((set >> house & 1) == 0) {
                return false;
            }
            int at = shore.houses[house].at;
            int way = Math.abs(from - at) + shortestWay(shore, at, set & ~(1 << house));
            return pace * way == pace * shortest;
        }

        /** Fills together: for each set of open houses the minutes in which all gangs can get it off. */
        private void shareOut(Shore shore) {
            int open = shore.openSet();
            for (int set = 1; set <= open; set++) {
                together[set] = NEVER;
            }
            together[0] = 0;
            for (int g = 0; g < shore.gangCount; g++) {
                for (int set = 0; set <= open; set++) {
                    alone[set] = (set & ~open) == 0 ? minutesFor(shore, g, set) : NEVER;
                }
                addGang(open);
            }
        }

        /** Sets go down, so that the parts of a set still tell of the gangs ahead alone. */
        private void addGang(int open) {
            for (int set = open; set > 0; set--) {
                if ((set & ~open) != 0) {
                    continue;
                }
                int least = together[set];
                for (int part = set; part > 0; part = (part - 1) & set) {
                    least = Math.min(least, Math.max(alone[part], together[set & ~part]));
                }
                together[set] = least;
            }
        }

        private int mostShared(Shore shore, int minutes) {
            int most = 0;
            int open = shore.openSet();
            for (int set = 0; set <= open; set++) {
                if ((set & ~open) == 0 && together[set] <= minutes) {
                    most = Math.max(most, shore.worthOf(set));
                }
            }
            return most;
        }

        /**
         * By sets of roofs: full rows times 100 and what the last row holds. The least such number is the
         * best to go on from, because one row more always has room for one roof more.
         */
        private int fewestRows(Shore shore, int off, int room) {
            together[0] = room;
            for (int set = 1; set <= off; set++) {
                together[set] = NEVER;
                for (int h = 0; h < shore.houseCount; h++) {
                    if ((set & ~off) == 0 && (set >> h & 1) == 1) {
                        int rows = laid(together[set & ~(1 << h)], shore.houses[h].length, room);
                        together[set] = Math.min(together[set], rows);
                    }
                }
            }
            return together[off] / 100;
        }

        private static int laid(int rows, int length, int room) {
            if (rows % 100 + length <= room) {
                return rows + length;
            }
            return (rows / 100 + 1) * 100 + length;
        }
    }
}
