/**
 * Those who live on the hill keep young by apples from one woman's basket: who looks how old behind days of bites,
 * halves, thefts and mornings, how few apples are enough, and who gave the half away.
 */
public final class MorningBite {
    public static final int UNKNOWN = -1, OUTSIDE = -2, STATE = -3, FULL = -4, NO = -5, NONE = -6;
    public static final long GONE = -1000000000000000000L;

    private static final int ONES = 6, ALL = (1 << ONES) - 1, IMAGES = 2;
    private static final int MOST_LOOKS = 99, MOST_PACE = 9, WHOLE = 2;
    private static final int MOST_BASKET = 99, MOST_GROWN = 40, GROWN_AT_FIRST = 12;
    private static final int BITE = 'b', HALF = 'h', GO = 'x', GIVE = '>', LURE = '!', MORNING = '.';
    private static final int LEAST_SIGN = 33, MOST_SIGN = 126;

    private final Hill hill;
    private final Pad pad;
    private final Days days;
    private final Keeper keeper;
    private final Shares shares;
    private final Sights sights;
    private final Year trialYear;
    private final Image[] images;

    public MorningBite() {
        hill = new Hill();
        pad = new Pad();
        days = new Days();
        keeper = new Keeper();
        shares = new Shares();
        sights = new Sights();
        trialYear = new Year();
        images = new Image[IMAGES];
        for (int k = 0; k < images.length; k++) {
            images[k] = new Image();
        }
    }

    // ---- 1 ones, the basket

    public int one(int one, int looks, int pace, int youth) {
        if (!within(one, 0, ONES - 1)) {
            return UNKNOWN;
        }
        if (!within(looks, 0, MOST_LOOKS) || !within(pace, 1, MOST_PACE) || !within(youth, 0, looks)) {
            return OUTSIDE;
        }
        hill.settle(one, looks, pace, youth);
        return hill.people();
    }

    public int leave(int one) {
        if (!hill.has(one)) {
            return UNKNOWN;
        }
        hill.drop(one);
        return hill.people();
    }

    public int set(int which, int v) {
        int was;
        if (which == 0 && within(v, 0, MOST_BASKET)) {
            was = hill.basket;
            hill.basket = v;
        } else if (which == 1 && within(v, 0, MOST_GROWN)) {
            was = hill.grown;
            hill.grown = v;
        } else if (which == 2 && within(v, 0, 1)) {
            was = hill.she;
            hill.she = v;
        } else {
            return OUTSIDE;
        }
        return was;
    }

    public int say(int sign) {
        if (!within(sign, LEAST_SIGN, MOST_SIGN)) {
            return OUTSIDE;
        }
        return pad.add(sign) ? pad.size : FULL;
    }

    public int wipe() {
        int were = pad.size;
        pad.size = 0;
        return were;
    }

    public int fault() {
        return pad.read();
    }

    // ---- 2 days

    public int judge(int what) {
        if (!within(what, 0, 2)) {
            return OUTSIDE;
        }
        int refusal = liveDays();
        if (refusal == NO || what == 2 && refusal == STATE) {
            return refusal;
        }
        if (what == 2) {
            return days.mornings;
        }
        return what == 0 ? days.badAct : days.badWhy;
    }

    public int behind(int one, int what) {
        if (!within(what, 0, 1)) {
            return OUTSIDE;
        }
        int refusal = liveDays();
        if (refusal != 0) {
            return refusal;
        }
        if (!days.end.has(one)) {
            return UNKNOWN;
        }
        return what == 0 ? days.end.looks[one] : days.end.eaten[one];
    }

    public int basket() {
        int refusal = liveDays();
        return refusal != 0 ? refusal : days.end.basket;
    }

    public int passed(int what) {
        if (!within(what, 0, 1)) {
            return OUTSIDE;
        }
        int refusal = liveDays();
        if (refusal != 0) {
            return refusal;
        }
        return what == 0 ? days.passMorning : days.passPair;
    }

    public int oldest(int morning) {
        int refusal = liveDays();
        if (refusal != 0) {
            return refusal;
        }
        return within(morning, 0, days.mornings - 1) ? days.oldestAt[morning] : UNKNOWN;
    }

    public int done() {
        int refusal = liveDays();
        if (refusal != 0) {
            return refusal;
        }
        hill.takeOver(days.end);
        pad.size = 0;
        return pad.acts;
    }

    public int lasts(int one, int v) {
        if (!hill.has(one)) {
            return UNKNOWN;
        }
        if (!within(v, 0, MOST_LOOKS)) {
            return OUTSIDE;
        }
        if (v == MOST_LOOKS) {
            return 100;
        }
        int room = v - hill.looks[one];
        int pace = hill.pace[one];
        return room < 0 || pace < 1 ? NONE : room / pace;
    }

    // ---- 3 plans, shares

    public int keeps(int set, int m, int n, int v) {
        int refusal = refuseKeeping(set, m, n, v);
        if (refusal != 0) {
            return refusal;
        }
        return keeper.solve(hill, set, m, n, v);
    }

    public int plan(int set, int m, int n, int v, int day, int one) {
        int refusal = refuseKeeping(set, m, n, v);
        if (refusal != 0) {
            return refusal;
        }
        if (!within(one, 0, ONES - 1) || (set >> one & 1) == 0 || !within(day, 0, m - 1)) {
            return UNKNOWN;
        }
        return keeper.solve(hill, set, m, n, v) == NONE ? NONE : keeper.eats(day, one);
    }

    public int envy(int c, int what) {
        if (!within(c, 0, ONES * WHOLE) || !within(what, 0, 1)) {
            return OUTSIDE;
        }
        shares.weigh(hill, c);
        return what == 0 ? shares.count : shares.first;
    }

    public int refuses(int m) {
        if (!within(m, 0, 60)) {
            return OUTSIDE;
        }
        int more = 0;
        for (int one = 0; one < ONES; one++) {
            if (hill.has(one)) {
                int span = m * hill.pace[one];
                int older = Math.min(MOST_LOOKS, hill.looks[one] + span);
                int younger = Math.max(hill.youth[one], hill.looks[one] - span);
                more += older - younger;
            }
        }
        return more;
    }

    // ---- 4 who gave it, thieves, worms

    public int seen(int one, int v) {
        if (!hill.has(one)) {
            return UNKNOWN;
        }
        if (!within(v, 0, MOST_LOOKS)) {
            return OUTSIDE;
        }
        return sights.add(one, v) ? sights.count : FULL;
    }

    public int forget() {
        int were = sights.count;
        sights.count = 0;
        return were;
    }

    public int gave(int what) {
        if (!within(what, 0, 1)) {
            return OUTSIDE;
        }
        int givers = sights.givers(hill);
        return what == 0 ? Integer.bitCount(givers) : givers & ALL;
    }

    public int ask(int what) {
        if (!within(what, 0, 1)) {
            return OUTSIDE;
        }
        int givers = sights.givers(hill);
        int best = NONE;
        int fewest = NONE;
        for (int one = 0; one < ONES && givers != 0; one++) {
            if (hill.has(one)) {
                int left = Sights.leftAtMost(hill, givers, one);
                if (best == NONE || left < fewest) {
                    best = one;
                    fewest = left;
                }
            }
        }
        return what == 0 ? best : fewest;
    }

    public int thieves(int n, int k, int what) {
        if (!within(n, 1, 99) || !within(k, 1, 9) || !within(what, 0, 1)) {
            return OUTSIDE;
        }
        // Who leaves the other one half more than a multiple of k + 1 can do so to the last, so the way to win is one.
        int take = (n - 1) % (k + 1);
        if (what == 0) {
            return take == 0 ? 0 : 1;
        }
        return take == 0 ? NONE : take;
    }

    public long worms(int one, int a, int t, int v, int part) {
        if (!hill.has(one)) {
            return GONE + UNKNOWN;
        }
        if (!within(a, 0, 6) || !within(t, 0, 10) || !within(v, -1, MOST_LOOKS) || !within(part, 0, 1)) {
            return GONE + OUTSIDE;
        }
        long upper = Wormy.weigh(hill, one, a, t, v);
        long lower = Wormy.power(10, a);
        return (part == 0 ? upper : lower) / Wormy.commonDivisor(upper, lower);
    }

    public int year(int seed, int m, int what) {
        if (!within(seed, 0, 9999) || !within(m, 1, 99) || !within(what, 0, 2)) {
            return OUTSIDE;
        }
        trialYear.live(hill, seed, m);
        if (what == 0) {
            return trialYear.end.looksTogether();
        }
        return what == 1 ? trialYear.end.oldestOne() : trialYear.mornings;
    }

    public int image(int k) {
        if (!within(k, 0, IMAGES - 1)) {
            return OUTSIDE;
        }
        images[k].keep(hill, sights);
        return 1;
    }

    public int restore(int k) {
        if (!within(k, 0, IMAGES - 1)) {
            return OUTSIDE;
        }
        if (!images[k].kept) {
            return STATE;
        }
        images[k].giveBack(hill, sights);
        return 1;
    }

    public int told(int what) {
        switch (what) {
            case 0: return pad.size;
            case 1: return hill.there;
            case 2: return hill.basket;
            case 3: return hill.grown;
            case 4: return hill.she;
            case 5: return sights.count;
            default: return what < 10 ? OUTSIDE : toldOf(what / 10 - 1, what % 10);
        }
    }

    private int toldOf(int one, int what) {
        if (!hill.has(one)) {
            return OUTSIDE;
        }
        switch (what) {
            case 0: return hill.looks[one];
            case 1: return hill.pace[one];
            case 2: return hill.youth[one];
            case 3: return hill.eaten[one];
            default: return OUTSIDE;
        }
    }

    /** Lives the days of the pad on a hill apart; answers NO or STATE where most questions are refused, else 0. */
    private int liveDays() {
        if (pad.read() != NONE) {
            return NO;
        }
        days.live(hill, pad);
        return days.badAct == NONE ? 0 : STATE;
    }

    private int refuseKeeping(int set, int m, int n, int v) {
        if (!within(set, 0, ALL) || (set & ~hill.there) != 0) {
            return UNKNOWN;
        }
        if (!within(m, 0, Keeper.DAYS) || !within(n, 0, 6) || !within(v, 0, MOST_LOOKS)) {
            return OUTSIDE;
        }
        return Integer.bitCount(set) > Keeper.SEATS ? FULL : 0;
    }

    private static boolean within(int v, int least, int most) {
        return least <= v && v <= most;
    }

    /** Who lives there, how old each looks, and the basket. */
    private static final class Hill {
        private final int[] looks = new int[ONES];
        private final int[] pace = new int[ONES];
        private final int[] youth = new int[ONES];
        private final int[] eaten = new int[ONES];
        private int there;
        private int basket;
        private int grown = GROWN_AT_FIRST;
        private int she = 1;

        boolean has(int one) {
            return one >= 0 && one < ONES && (there >> one & 1) == 1;
        }

        int people() {
            return Integer.bitCount(there);
        }

        void settle(int one, int looksNow, int paceNow, int youthNow) {
            if (one < 0 || one >= ONES) {
                return;
            }
            there |= 1 << one;
            looks[one] = looksNow;
            pace[one] = paceNow;
            youth[one] = youthNow;
            eaten[one] = 0;
        }

        void drop(int one) {
            if (has(one)) {
                there &= ~(1 << one);
            }
        }

        void takeOver(Hill from) {
            System.arraycopy(from.looks, 0, looks, 0, ONES);
            System.arraycopy(from.pace, 0, pace, 0, ONES);
            System.arraycopy(from.youth, 0, youth, 0, ONES);
            System.arraycopy(from.eaten, 0, eaten, 0, ONES);
            there = from.there;
            basket = from.basket;
            grown = from.grown;
            she = from.she;
        }

        /** Why an act can not be: the least reason, or 0 where it can. */
        int whyNot(int act, int one, int other) {
            if (act == LURE || act == MORNING) {
                return 0;
            }
            if (!has(one) || act == GIVE && !has(other)) {
                return 1;
            }
            if (act == GO) {
                return 0;
            }
            if (act == GIVE) {
                return whyNotGive(one, other);
            }
            int halves = halvesOf(act);
            if (eaten[one] + halves > WHOLE) {
                return 3;
            }
            return basket < halves ? 4 : 0;
        }

        private int whyNotGive(int one, int other) {
            if (one == other) {
                return 2;
            }
            if (eaten[other] + 1 > WHOLE) {
                return 3;
            }
            return eaten[one] == 0 ? 5 : 0;
        }

        private static int halvesOf(int act) {
            return act == BITE ? WHOLE : 1;
        }

        /** Does an act that can be; what can not be is left undone. */
        void act(int act, int one, int other) {
            if (whyNot(act, one, other) != 0) {
                return;
            }
            if (act == LURE) {
                she = 1 - she;
            } else if (act == MORNING) {
                wake();
            } else if (act == GO) {
                drop(one);
            } else if (act == GIVE && has(one) && has(other)) {
                eaten[one]--;
                eaten[other]++;
            } else if (has(one)) {
                eaten[one] += halvesOf(act);
                basket -= halvesOf(act);
            }
        }

        private void wake() {
            for (int one = 0; one < ONES; one++) {
                if (has(one)) {
                    looks[one] = aged(one, looks[one], eaten[one]);
                    eaten[one] = 0;
                }
            }
            basket = she == 1 ? grown : 0;
        }

        /** How old a ONE of this pace and youth looks behind a morning, from how old it looks ahead of it. */
        int aged(int one, int from, int halves) {
            if (!has(one) || halves == 1) {
                return from;
            }
            return halves == 0 ? Math.min(MOST_LOOKS, from + pace[one]) : Math.max(youth[one], from - pace[one]);
        }

        int oldestOne() {
            int best = NONE;
            int most = -1;
            for (int one = 0; one < ONES; one++) {
                if (has(one) && looks[one] > most) {
                    best = one;
                    most = looks[one];
                }
            }
            return best;
        }

        int looksTogether() {
            int sum = 0;
            for (int one = 0; one < ONES; one++) {
                sum += has(one) ? looks[one] : 0;
            }
            return sum;
        }
    }

    /** The signs that were said, and the acts that they are when they are read. */
    private static final class Pad {
        private static final int SIGNS = 60;
        private static final int START = 0, VERB = 1, RECEIVER = 2;

        private final int[] signs = new int[SIGNS];
        private final int[] kinds = new int[SIGNS];
        private final int[] doers = new int[SIGNS];
        private final int[] receivers = new int[SIGNS];
        private int size;
        private int acts;

        boolean add(int sign) {
            if (size < 0 || size >= SIGNS) {
                return false;
            }
            signs[size] = sign;
            size++;
            return true;
        }

        /** Reads the signs into acts up to the fault; answers its place, or NONE. */
        int read() {
            acts = 0;
            int wanted = START;
            int doer = 0;
            for (int i = 0; i < size && i < SIGNS; i++) {
                int sign = signs[i];
                if (wanted == START && isLetter(sign)) {
                    doer = sign - 'A';
                    wanted = VERB;
                } else if (wanted == START && (sign == LURE || sign == MORNING)) {
                    addAct(sign, 0, 0);
                } else if (wanted == VERB && (sign == BITE || sign == HALF || sign == GO)) {
                    addAct(sign, doer, doer);
                    wanted = START;
                } else if (wanted == VERB && sign == GIVE) {
                    wanted = RECEIVER;
                } else if (wanted == RECEIVER && isLetter(sign)) {
                    addAct(GIVE, doer, sign - 'A');
                    wanted = START;
                } else {
                    return i;
                }
            }
            return wanted == START ? NONE : size;
        }

        private static boolean isLetter(int sign) {
            return sign >= 'A' && sign < 'A' + ONES;
        }

        private void addAct(int kind, int doer, int receiver) {
            if (acts >= 0 && acts < SIGNS) {
                kinds[acts] = kind;
                doers[acts] = doer;
                receivers[acts] = receiver;
                acts++;
            }
        }
    }

    /** The days of a pad, lived on a hill of their own so that nothing is done in fact. */
    private static final class Days {
        private final Hill end = new Hill();
        private final int[] ahead = new int[ONES];
        private final int[] oldestAt = new int[Pad.SIGNS];
        private int mornings;
        private int badAct;
        private int badWhy;
        private int passMorning;
        private int passPair;

        void live(Hill start, Pad pad) {
            end.takeOver(start);
            mornings = 0;
            badAct = NONE;
            badWhy = NONE;
            passMorning = NONE;
            passPair = NONE;
            for (int i = 0; i < pad.acts && i < Pad.SIGNS; i++) {
                int kind = pad.kinds[i];
                int why = end.whyNot(kind, pad.doers[i], pad.receivers[i]);
                if (why != 0) {
                    badAct = i;
                    badWhy = why;
                    return;
                }
                if (kind == MORNING) {
                    System.arraycopy(end.looks, 0, ahead, 0, ONES);
                }
                end.act(kind, pad.doers[i], pad.receivers[i]);
                if (kind == MORNING) {
                    tellMorning();
                }
            }
        }

        private void tellMorning() {
            if (mornings < 0 || mornings >= oldestAt.length) {
                return;
            }
            if (passPair == NONE) {
                passPair = leastPass();
                passMorning = passPair == NONE ? NONE : mornings;
            }
            oldestAt[mornings] = end.oldestOne();
            mornings++;
        }

        private int leastPass() {
            for (int one = 0; one < ONES; one++) {
                for (int other = one + 1; other < ONES; other++) {
                    if (end.has(one) && end.has(other) && hasPassed(one, other)) {
                        return 10 * one + other;
                    }
                }
            }
            return NONE;
        }

        private boolean hasPassed(int one, int other) {
            int was = Integer.compare(ahead[one], ahead[other]);
            int is = Integer.compare(end.looks[one], end.looks[other]);
            return was < 0 && is > 0 || was > 0 && is < 0;
        }
    }

    /**
     * The fewest halves that keep a set young enough. A ONE can look only two ages more with each day, so all ways of
     * three ONES are gone through by their ages, day by day from the last one, and not by what they eat.
     */
    private static final class Keeper {
        private static final int SEATS = 3, DAYS = 6, MEALS = 3;
        private static final int AGES = 2 * DAYS + 1;
        // The cubes of 1, 3, 5, 7, 9 and 11: how three ONES can look together ahead of each day.
        private static final int STATES = 2556;
        private static final int NEVER = 1000;

        private final int[] seats = new int[SEATS];
        private final int[][] ages = new int[(DAYS + 1) * SEATS][AGES];
        private final int[] counts = new int[(DAYS + 1) * SEATS];
        private final int[][] nexts = new int[DAYS * SEATS][AGES * MEALS];
        private final int[] fewest = new int[STATES];
        private final int[] starts = new int[DAYS + 1];
        private final int[] row = new int[DAYS * SEATS];
        private int days;
        private int halves;
        private int most;
        private int pick;

        int solve(Hill hill, int set, int m, int n, int v) {
            days = Math.max(0, Math.min(DAYS, m));
            halves = n;
            most = v;
            seat(hill, set);
            listAges(hill);
            for (int day = days - 1; day >= 0; day--) {
                countDay(day);
            }
            int all = fewestFrom(0, 0, 0, 0);
            return all < NEVER ? all : NONE;
        }

        /** Gives the ONES of a set their seats; a seat that is left over (NONE) eats nothing and does not age. */
        private void seat(Hill hill, int set) {
            int taken = 0;
            for (int one = 0; one < ONES && taken < SEATS; one++) {
                if ((set >> one & 1) == 1 && hill.has(one)) {
                    seats[taken] = one;
                    taken++;
                }
            }
            for (int place = taken; place < SEATS; place++) {
                seats[place] = NONE;
            }
        }

        private void listAges(Hill hill) {
            int states = 0;
            for (int day = 0; day <= days && day <= DAYS; day++) {
                int width = 1;
                for (int seat = 0; seat < SEATS; seat++) {
                    int place = day * SEATS + seat;
                    if (day == 0) {
                        ages[place][0] = hill.has(seats[seat]) ? hill.looks[seats[seat]] : 0;
                        counts[place] = 1;
                    } else {
                        listNext(hill, day - 1, seat);
                    }
                    width *= counts[place];
                }
                starts[day] = states;
                states += width;
            }
        }

        /** The ages of a seat behind a day from those ahead of it, and which meal leads from which to which. */
        private void listNext(Hill hill, int day, int seat) {
            int from = day * SEATS + seat;
            if (day < 0 || seat < 0 || seat >= SEATS || from >= nexts.length) {
                return;
            }
            counts[from + SEATS] = 0;
            for (int i = 0; i < counts[from] && i < AGES; i++) {
                for (int meal = 0; meal < MEALS; meal++) {
                    boolean can = meal == 0 || !lastsRest(hill, seats[seat], ages[from][i], days - day);
                    int age = hill.aged(seats[seat], ages[from][i], meal);
                    boolean fits = can && (age <= most || seats[seat] == NONE);
                    nexts[from][i * MEALS + meal] = fits ? findAge(from + SEATS, age) : NONE;
                }
            }
        }

        /** Who needs no bite any more gets none in any way by the fewest, so that far fewer ways are gone through. */
        private boolean lastsRest(Hill hill, int one, int age, int mornings) {
            return !hill.has(one) || Math.min(MOST_LOOKS, age + mornings * hill.pace[one]) <= most;
        }

        private int findAge(int place, int age) {
            if (place < 0 || place >= ages.length) {
                return NONE;
            }
            int count = counts[place];
            for (int i = 0; i < count && i < AGES; i++) {
                if (ages[place][i] == age) {
                    return i;
                }
            }
            if (count < 0 || count >= AGES) {
                return NONE;
            }
            ages[place][count] = age;
            counts[place]++;
            return count;
        }

        private int countOf(int day, int seat) {
            int place = day * SEATS + seat;
            return place >= 0 && place < counts.length ? counts[place] : 0;
        }

        private void countDay(int day) {
            int at = day >= 0 && day <= DAYS ? starts[day] : STATES;
            for (int a = 0; a < countOf(day, 0); a++) {
                for (int b = 0; b < countOf(day, 1); b++) {
                    for (int c = 0; c < countOf(day, 2); c++) {
                        if (at >= 0 && at < STATES) {
                            fewest[at] = bestMeals(day, a, b, c);
                        }
                        at++;
                    }
                }
            }
        }

        /** The fewest halves from a day on, the seats at these places of their ages; pick has the first meals for it. */
        private int bestMeals(int day, int a, int b, int c) {
            int best = NEVER;
            pick = NONE;
            for (int x = 0; x < MEALS && x <= halves; x++) {
                int nextA = next(day, 0, a, x);
                for (int y = 0; nextA >= 0 && y < MEALS && x + y <= halves; y++) {
                    int nextB = next(day, 1, b, y);
                    for (int z = 0; nextB >= 0 && z < MEALS && x + y + z <= halves; z++) {
                        int nextC = next(day, 2, c, z);
                        int sum = nextC < 0 ? NEVER : x + y + z + fewestFrom(day + 1, nextA, nextB, nextC);
                        if (sum < best) {
                            best = sum;
                            pick = (x * MEALS + y) * MEALS + z;
                        }
                    }
                }
            }
            return best;
        }

        private int next(int day, int seat, int place, int meal) {
            int from = day * SEATS + seat;
            int at = place * MEALS + meal;
            return from >= 0 && from < nexts.length && at >= 0 && at < AGES * MEALS ? nexts[from][at] : NONE;
        }

        private int fewestFrom(int day, int a, int b, int c) {
            if (day < 0 || day >= days || day >= DAYS) {
                return 0;
            }
            int at = starts[day] + (a * countOf(day, 1) + b) * countOf(day, 2) + c;
            return at >= 0 && at < STATES ? fewest[at] : NEVER;
        }

        /** What a ONE eats on a day in the first way: by each day the least meals that come to the fewest. */
        int eats(int day, int one) {
            walk();
            for (int seat = 0; seat < SEATS; seat++) {
                if (seats[seat] == one && day >= 0 && day < days && day < DAYS) {
                    return row[day * SEATS + seat];
                }
            }
            return UNKNOWN;
        }

        private void walk() {
            int a = 0;
            int b = 0;
            int c = 0;
            for (int day = 0; day < days && day < DAYS; day++) {
                if (bestMeals(day, a, b, c) >= NEVER || pick < 0) {
                    return;
                }
                int x = pick / (MEALS * MEALS);
                int y = pick / MEALS % MEALS;
                int z = pick % MEALS;
                row[day * SEATS] = x;
                row[day * SEATS + 1] = y;
                row[day * SEATS + 2] = z;
                a = next(day, 0, a, x);
                b = next(day, 1, b, y);
                c = next(day, 2, c, z);
            }
        }
    }

    /** The shares of a day's halves that leave no envy. */
    private static final class Shares {
        private static final int NOT_THERE = 3;

        private final int[] behind = new int[ONES];
        private int count;
        private int first;

        void weigh(Hill hill, int halves) {
            count = 0;
            first = NONE;
            share(hill, 0, halves, 0);
        }

        /** Gives a ONE, and those after it, what is left; the depth is the ONE's number. */
        private void share(Hill hill, int one, int left, int digits) {
            if (one < 0 || one >= ONES) {
                addShare(left, digits);
            } else if (!hill.has(one)) {
                share(hill, one + 1, left, digits * 10 + NOT_THERE);
            } else {
                for (int halves = 0; halves <= WHOLE && halves <= left; halves++) {
                    behind[one] = hill.aged(one, hill.looks[one], halves);
                    if (!envies(hill, one)) {
                        share(hill, one + 1, left - halves, digits * 10 + halves);
                    }
                }
            }
        }

        private void addShare(int left, int digits) {
            if (left == 0) {
                first = count == 0 ? digits : first;
                count++;
            }
        }

        private boolean envies(Hill hill, int one) {
            for (int other = 0; other < one && other < ONES; other++) {
                if (hill.has(other) && (wronged(hill, one, other) || wronged(hill, other, one))) {
                    return true;
                }
            }
            return false;
        }

        private boolean wronged(Hill hill, int one, int other) {
            return hill.has(one) && hill.has(other)
                && hill.looks[other] >= hill.looks[one] && behind[one] > behind[other];
        }
    }

    /** How old some looked, behind the morning of a day on which a half may have been given away. */
    private static final class Sights {
        private static final int MOST = 8, NOBODY = ONES;

        private final int[] ones = new int[MOST];
        private final int[] looked = new int[MOST];
        private int count;

        boolean add(int one, int looks) {
            if (count < 0 || count >= MOST) {
                return false;
            }
            ones[count] = one;
            looked[count] = looks;
            count++;
            return true;
        }

        void takeOver(Sights from) {
            System.arraycopy(from.ones, 0, ones, 0, MOST);
            System.arraycopy(from.looked, 0, looked, 0, MOST);
            count = from.count;
        }

        /** Those by whom all sights are so, as bits; nobody is the bit behind the ONES. */
        int givers(Hill hill) {
            int bits = 0;
            for (int giver = 0; giver <= NOBODY; giver++) {
                if ((giver == NOBODY || hill.has(giver)) && fits(hill, giver)) {
                    bits |= 1 << giver;
                }
            }
            return bits;
        }

        private boolean fits(Hill hill, int giver) {
            for (int i = 0; i < count && i < MOST; i++) {
                if (!hill.has(ones[i]) || looksBehind(hill, giver, ones[i]) != looked[i]) {
                    return false;
                }
            }
            return true;
        }

        /** How many of these givers are left at the most when a ONE is looked at. */
        static int leftAtMost(Hill hill, int givers, int one) {
            int all = Integer.bitCount(givers);
            if (!hill.has(one) || looksBehind(hill, one, one) == looksBehind(hill, NOBODY, one)) {
                return all;
            }
            int itself = givers >> one & 1;
            return Math.max(itself, all - itself);
        }

        private static int looksBehind(Hill hill, int giver, int one) {
            return hill.has(one) ? hill.aged(one, hill.looks[one], giver == one ? WHOLE - 1 : WHOLE) : NONE;
        }
    }

    /** Apples that are wormy by chance, as whole numbers over a power of ten. */
    private static final class Wormy {
        /** The upper number over 10 to the days: of looking no more than v, or, with v -1, of the mean. */
        static long weigh(Hill hill, int one, int days, int tenths, int v) {
            long sum = 0;
            for (int wormy = 0; wormy < 1 << days; wormy++) {
                int looks = looksBehind(hill, one, days, wormy);
                int bad = Integer.bitCount(wormy);
                long weight = power(tenths, bad) * power(10 - tenths, days - bad);
                if (v < 0) {
                    sum += weight * looks;
                } else if (looks <= v) {
                    sum += weight;
                }
            }
            return sum;
        }

        private static int looksBehind(Hill hill, int one, int days, int wormy) {
            int looks = hill.has(one) ? hill.looks[one] : 0;
            for (int day = 0; day < days; day++) {
                looks = hill.aged(one, looks, (wormy >> day & 1) == 1 ? 0 : WHOLE);
            }
            return looks;
        }

        static long power(long base, int times) {
            long product = 1;
            for (int i = 0; i < times; i++) {
                product *= base;
            }
            return product;
        }

        static long commonDivisor(long a, long b) {
            for (int i = 0; i < 200 && b != 0; i++) {
                long left = a % b;
                a = b;
                b = left;
            }
            return Math.max(1, a);
        }
    }

    /** A year by draws, lived on a hill of its own. */
    private static final class Year {
        private static final int KINDS = 7;

        private final Hill end = new Hill();
        private int mornings;

        void live(Hill start, int seed, int acts) {
            end.takeOver(start);
            mornings = 0;
            int x = seed;
            for (int i = 0; i < acts; i++) {
                x = (75 * x + 74) % 65537;
                int kind = kindOf(x / ONES % KINDS);
                end.act(kind, x % ONES, x / (ONES * KINDS) % ONES);
                mornings += kind == MORNING ? 1 : 0;
            }
        }

        private static int kindOf(int draw) {
            switch (draw) {
                case 0: return BITE;
                case 1: return BITE;
                case 2: return HALF;
                case 3: return HALF;
                case 4: return GIVE;
                case 5: return MORNING;
                default: return LURE;
            }
        }
    }

    /** All but the pad, as it was when it was kept. */
    private static final class Image {
        private final Hill hill = new Hill();
        private final Sights sights = new Sights();
        private boolean kept;

        void keep(Hill hillNow, Sights sightsNow) {
            hill.takeOver(hillNow);
            sights.takeOver(sightsNow);
            kept = true;
        }

        void giveBack(Hill hillNow, Sights sightsNow) {
            hillNow.takeOver(hill);
            sightsNow.takeOver(sights);
        }
    }
}
