import java.util.Arrays;

/**
 * Things that smell of who was there, and a detective who comes and stands.
 *
 * <p>The layers of a thing are never kept: each call lets the hours pass anew from what was told.
 * What may be (a plan, a guess, a day by lot) is told behind all others, looked at, and taken back
 * before the call answers. All rows are made with the object, so that calls make none.
 */
public final class ChairSmells {
    public static final int NONE = -1, BAD = -2, NOT = -3, FULL = -4;

    private static final int HOURS = 24;
    private static final int ALL_HOURS = (1 << HOURS) - 1;
    private static final int MOST_THINGS = 6;
    private static final int ALL_THINGS = (1 << MOST_THINGS) - 1;
    private static final int MOST_PEOPLE = 8;
    private static final int ALL_SMELLS = (1 << MOST_PEOPLE) - 1;
    private static final int MOST_PAIRS = MOST_PEOPLE * (MOST_PEOPLE - 1) / 2;
    private static final int MOST_LAYERS = 5;
    private static final int MOST_SITTINGS = 20;
    private static final int MOST_WINDOWS = 8;
    private static final int MOST_SMELT = 8;
    private static final int MOST_SITTERS = 2;
    private static final int MOST_AIRINGS = 3;
    private static final int LAST_DRAUGHT = 9;
    private static final int SIXTEEN = 16;
    private static final int SHEETS = 4;
    private static final int FORMS = 3;
    private static final int MOST_ITEMS = 60;
    private static final int LEAST_INT = 0x80000000;
    private static final long LEAST_LONG = 0x8000000000000000L;
    private static final int NULL = 1, INDEX = 2, CAST = 3, STORE = 4, SIZE = 5;
    private static final int[] DIGEST_HOURS = {0, 1, 5, 10, 23};

    private final House house = new House();
    private final Told smeltRows = new Told(MOST_SMELT, 0);
    private final Plan plan = new Plan(house);
    private final Guess guess = new Guess(house, smeltRows);
    private final Fraction fraction = new Fraction();
    private final Sheet[] sheets = {new Sheet(), new Sheet(), new Sheet(), new Sheet()};
    private int latestFinding = 0;

    public ChairSmells() {
    }

    // ---- things, people, sittings

    public int type(int text, int b) {
        if (noText(text) || b < 0 || b > 255) {
            return BAD;
        }
        Text typed = textOf(text);
        if (typed.isFull()) {
            return FULL;
        }
        typed.append(b);
        return typed.length;
    }

    public int wipe(int text) {
        if (noText(text)) {
            return BAD;
        }
        Text wiped = textOf(text);
        int had = wiped.length;
        wiped.shorten(0);
        return had;
    }

    public int undo(int text) {
        if (noText(text)) {
            return BAD;
        }
        Text undone = textOf(text);
        if (undone.length == 0) {
            return NOT;
        }
        undone.shorten(undone.length - 1);
        return undone.length;
    }

    public int fault(int text) {
        return noText(text) ? BAD : textOf(text).faultPlace();
    }

    public int thing(int thing, int what) {
        return house.things.part(thing, what);
    }

    public int person(int person, int what) {
        return house.people.part(person, what);
    }

    public int sit(int hour, int person, int thing) {
        if (noHour(hour) || noPersonNumber(person) || noThingNumber(thing)) {
            return BAD;
        }
        if (house.sittings.isFull()) {
            return FULL;
        }
        house.sittings.add(hour, thing, person);
        return house.sittings.size;
    }

    public int window(int hour, int thing) {
        if (noHour(hour) || noThingNumber(thing)) {
            return BAD;
        }
        if (house.windows.isFull()) {
            return FULL;
        }
        house.windows.add(hour, thing, 0);
        return house.windows.size;
    }

    public int back(int what) {
        if (what != 0 && what != 1) {
            return BAD;
        }
        Told rows = what == 0 ? house.sittings : house.windows;
        if (rows.size == 0) {
            return NOT;
        }
        rows.drop();
        return rows.size;
    }

    public int read(int s) {
        if (noSheet(s)) {
            return BAD;
        }
        Sheet from = sheets[s];
        if (from.isLost()) {
            return finding(NULL);
        }
        int taken = 0;
        for (int i = 0; i + 2 < from.length; i += 3) {
            if (sit(from.item(i), from.item(i + 1), from.item(i + 2)) < 0) {
                break;
            }
            taken++;
        }
        return taken;
    }

    // ---- smells

    public int layers(int hour, int thing, int i) {
        if (noHour(hour) || house.lacksThing(thing) || i < NONE || i >= MOST_LAYERS) {
            return BAD;
        }
        house.tellsBehind(thing, hour, 0);
        return i == NONE ? house.layers.size : house.layers.smellAt(i);
    }

    public int strong(int hour, int thing, int i) {
        if (noHour(hour) || house.lacksThing(thing) || i < 0 || i >= MOST_LAYERS) {
            return BAD;
        }
        house.tellsBehind(thing, hour, 0);
        return house.layers.strengthAt(i);
    }

    public int tells(int hour, int thing) {
        if (noHour(hour) || thing != NONE && house.lacksThing(thing)) {
            return BAD;
        }
        return thing == NONE ? house.allTell(hour, ALL_THINGS) : house.tellsBehind(thing, hour, 0);
    }

    public int nowhere(int hour) {
        if (noHour(hour)) {
            return BAD;
        }
        int told = house.allTell(hour, ALL_THINGS);
        int missing = 0;
        for (int k = 0; k < house.sittings.size; k++) {
            int person = house.sittings.others[k];
            if (house.sittings.hours[k] > hour || house.lacksThing(house.sittings.things[k])
                    || house.lacksPerson(person)) {
                continue;
            }
            if (!holds(told, house.people.third[person])) {
                missing |= 1 << person;
            }
        }
        return missing;
    }

    public int last(int thing, int smell) {
        if (house.lacksThing(thing) || house.lacksPerson(smell)) {
            return BAD;
        }
        for (int hour = HOURS - 1; hour >= 0; hour--) {
            if (holds(house.tellsBehind(thing, hour, 0), smell)) {
                return hour;
            }
        }
        return NONE;
    }

    public int together(int i) {
        if (i < NONE || i >= MOST_PAIRS) {
            return BAD;
        }
        long pairs = house.inseparable();
        if (i == NONE) {
            return Long.bitCount(pairs);
        }
        int ahead = i;
        for (int pair = 0; pair < MOST_PEOPLE * MOST_PEOPLE; pair++) {
            if ((pairs >> pair & 1L) == 1L) {
                if (ahead == 0) {
                    return pair;
                }
                ahead--;
            }
        }
        return NONE;
    }

    // ---- plans

    public int hide(int person, int hour, int behind, int i) {
        if (house.lacksPerson(person) || noHour(hour) || noHour(behind) || i < NONE || i >= MOST_SITTERS) {
            return BAD;
        }
        plan.aim(hour, behind, 1 << house.people.third[person], 0);
        plan.seat(ALL_THINGS, person);
        return plan.answer(i);
    }

    public int frame(int thing, int smells, int hour, int behind, int i) {
        if (house.lacksThing(thing) || noSmells(smells) || noHour(hour) || noHour(behind)
                || i < NONE || i >= MOST_SITTERS) {
            return BAD;
        }
        plan.aim(hour, behind, ALL_SMELLS, smells);
        plan.seat(1 << thing, NONE);
        return plan.answer(i);
    }

    public int air(int things, int hour, int behind, int i) {
        if (things < 0 || things > ALL_THINGS || noHour(hour) || noHour(behind)
                || i < NONE || i >= MOST_AIRINGS) {
            return BAD;
        }
        plan.aim(hour, behind, ALL_SMELLS, 0);
        plan.open(things);
        return plan.answer(i);
    }

    public int known(int hour) {
        if (noHour(hour)) {
            return BAD;
        }
        int all = house.allTell(hour, ALL_THINGS);
        int every = (1 << house.things.entries) - 1;
        int best = every;
        // upwards, and only for fewer things: so of like ones the least bits stay
        for (int set = 0; set < every; set++) {
            if (Integer.bitCount(set) < Integer.bitCount(best) && house.allTell(hour, set) == all) {
                best = set;
            }
        }
        return best;
    }

    // ---- smelt, draughts, days

    public int smelt(int hour, int thing, int smells) {
        if (noHour(hour) || noThingNumber(thing) || noSmells(smells)) {
            return BAD;
        }
        if (smeltRows.isFull()) {
            return FULL;
        }
        smeltRows.add(hour, thing, smells);
        return smeltRows.size;
    }

    public int forget() {
        int had = smeltRows.size;
        smeltRows.clear();
        return had;
    }

    public int when(int person, int thing) {
        if (house.lacksPerson(person) || house.lacksThing(thing)) {
            return BAD;
        }
        return guess.hoursOf(person, thing);
    }

    public int who(int sitting) {
        return noSitting(sitting) ? BAD : guess.sittersOf(sitting);
    }

    public int stand(int sitting, int hour) {
        return noSitting(sitting) || noHour(hour) ? BAD : guess.tellingThing(sitting, hour);
    }

    public long draughts(int c, int thing, int smell, int hour, int what) {
        if (c < 0 || c > SIXTEEN || house.lacksThing(thing) || house.lacksPerson(smell)
                || hour < 0 || hour > LAST_DRAUGHT || what < 0 || what > 1) {
            return longRefusal(BAD);
        }
        int hours = hour + 1;
        long above = 0;
        for (int aired = 0; aired < 1 << hours; aired++) {
            int times = Integer.bitCount(aired);
            long weight = power(c, times) * power(SIXTEEN - c, hours - times);
            if (weight > 0 && holds(house.tellsBehind(thing, hour, aired), smell)) {
                above += weight;
            }
        }
        fraction.become(above, power(SIXTEEN, hours));
        return what == 0 ? fraction.above : fraction.below;
    }

    public long found(int hours, int thing, int smell, int what) {
        if (hours < 0 || hours > ALL_HOURS || house.lacksThing(thing) || house.lacksPerson(smell)
                || what < 0 || what > 1) {
            return longRefusal(BAD);
        }
        int telling = 0;
        for (int hour = 0; hour < HOURS; hour++) {
            if (holds(hours, hour) && holds(house.tellsBehind(thing, hour, 0), smell)) {
                telling++;
            }
        }
        fraction.become(telling, Integer.bitCount(hours));
        return what == 0 ? fraction.above : fraction.below;
    }

    public int day(int seed, int hour, int thing) {
        if (noHour(hour) || house.lacksThing(thing)) {
            return BAD;
        }
        return house.tellsByLot(seed, hour, thing);
    }

    // ---- sheets

    public int sheet(int s, int form, int n) {
        if (noSheet(s) || noForm(form) || n > MOST_ITEMS) {
            return BAD;
        }
        if (n < 0) {
            return finding(SIZE);
        }
        sheets[s].renew(form, n);
        return n;
    }

    public int lose(int s) {
        if (noSheet(s)) {
            return BAD;
        }
        if (sheets[s].isLost()) {
            return finding(NULL);
        }
        int had = sheets[s].length;
        sheets[s].beLost();
        return had;
    }

    public int put(int s, int form, int i, int v) {
        if (noSheet(s) || noForm(form)) {
            return BAD;
        }
        int wrong = sheets[s].wrongWith(form, i);
        if (wrong != 0) {
            return finding(wrong);
        }
        sheets[s].store(i, v);
        return 1;
    }

    public int get(int s, int form, int i) {
        if (noSheet(s) || noForm(form)) {
            return LEAST_INT;
        }
        int wrong = sheets[s].wrongWith(form, i);
        if (wrong != 0) {
            finding(wrong);
            return LEAST_INT;
        }
        return sheets[s].item(i);
    }

    public int copy(int s, int i, int t, int j, int n) {
        if (noSheet(s) || noSheet(t)) {
            return BAD;
        }
        Sheet from = sheets[s];
        Sheet to = sheets[t];
        if (from.isLost() || to.isLost()) {
            return finding(NULL);
        }
        if (from.form != to.form) {
            return finding(STORE);
        }
        if (n < 0 || from.lacksRun(i, n) || to.lacksRun(j, n)) {
            return finding(INDEX);
        }
        System.arraycopy(from.items, i, to.items, j, n);
        return 1;
    }

    public int write(int thing, int s) {
        if (house.lacksThing(thing) || noSheet(s)) {
            return BAD;
        }
        Sheet to = sheets[s];
        if (to.isLost()) {
            return finding(NULL);
        }
        int written = Math.min(to.length, HOURS);
        for (int hour = 0; hour < written; hour++) {
            to.store(hour, house.tellsBehind(thing, hour, 0));
        }
        return written;
    }

    public int count(int what) {
        switch (what) {
            case 0: return house.things.entries;
            case 1: return house.people.entries;
            case 2: return house.things.length;
            case 3: return house.people.length;
            case 4: return house.sittings.size;
            case 5: return house.windows.size;
            case 6: return smeltRows.size;
            case 7: return house.layersAtTheEnd();
            case 8: return latestFinding;
            default: return BAD;
        }
    }

    public long digest() {
        long h = 17;
        for (int what = 0; what < 8; what++) {
            h = 31 * h + count(what);
        }
        h = 31 * h + fault(0);
        h = 31 * h + fault(1);
        for (int it = 0; it < house.things.entries; it++) {
            h = 31 * h + thing(it, 0);
            h = 31 * h + thing(it, 1);
            h = 31 * h + thing(it, 2);
            h = 31 * h + layers(9, it, NONE);
            h = 31 * h + layers(9, it, 0);
            h = 31 * h + strong(9, it, 0);
            h = 31 * h + last(it, 0);
            h = 31 * h + draughts(5, it, 0, 4, 0);
            h = 31 * h + draughts(5, it, 0, 4, 1);
            h = 31 * h + found(21, it, 1, 0);
            h = 31 * h + found(21, it, 1, 1);
            h = 31 * h + day(7, 12, it);
        }
        for (int it = 0; it < house.people.entries; it++) {
            h = 31 * h + person(it, 0);
            h = 31 * h + person(it, 1);
            h = 31 * h + person(it, 2);
            h = 31 * h + hide(it, 3, 5, NONE);
            h = 31 * h + hide(it, 3, 5, 0);
            h = 31 * h + when(it, 0);
        }
        for (int hour : DIGEST_HOURS) {
            h = 31 * h + tells(hour, NONE);
            h = 31 * h + nowhere(hour);
            h = 31 * h + known(hour);
        }
        for (int it = 0; it < house.sittings.size; it++) {
            h = 31 * h + who(it);
            h = 31 * h + stand(it, 9);
        }
        h = 31 * h + together(NONE);
        h = 31 * h + together(0);
        h = 31 * h + frame(0, 3, 2, 4, NONE);
        h = 31 * h + frame(0, 3, 2, 4, 0);
        h = 31 * h + air(1, 4, 6, NONE);
        return 31 * h + air(1, 4, 6, 0);
    }

    // ---- what numbers may be

    private Text textOf(int text) {
        return text == 0 ? house.things : house.people;
    }

    private int finding(int number) {
        latestFinding = number;
        return -10 - number;
    }

    private boolean noSitting(int sitting) {
        return sitting < 0 || sitting >= house.sittings.size;
    }

    private static boolean noText(int text) {
        return text != 0 && text != 1;
    }

    private static boolean noHour(int hour) {
        return hour < 0 || hour >= HOURS;
    }

    private static boolean noPersonNumber(int person) {
        return person < 0 || person >= MOST_PEOPLE;
    }

    private static boolean noThingNumber(int thing) {
        return thing < 0 || thing >= MOST_THINGS;
    }

    private static boolean noSmells(int smells) {
        return smells < 0 || smells > ALL_SMELLS;
    }

    private static boolean noSheet(int s) {
        return s < 0 || s >= SHEETS;
    }

    private static boolean noForm(int form) {
        return form < 0 || form >= FORMS;
    }

    private static boolean holds(int bits, int place) {
        return (bits >> place & 1) == 1;
    }

    private static long longRefusal(int refusal) {
        return LEAST_LONG - refusal;
    }

    private static long power(int base, int times) {
        long product = 1;
        for (int i = 0; i < times; i++) {
            product *= base;
        }
        return product;
    }

    /** The bytes of a text and, while it has no fault, its entries, three signs each. */
    private static final class Text {
        private static final int STEP = 4;

        private final boolean ofPeople;
        private final int[] bytes;
        private int length = 0;
        private int entries = 0;
        private final int[] first;
        private final int[] second;
        private final int[] third;

        /** With its length a text can never hold one entry too many, so no fault tells of that. */
        Text(boolean ofPeople) {
            this.ofPeople = ofPeople;
            int most = ofPeople ? MOST_PEOPLE : MOST_THINGS;
            bytes = new int[STEP * most - 1];
            first = new int[most];
            second = new int[most];
            third = new int[most];
        }

        boolean isFull() {
            return length >= bytes.length;
        }

        void append(int b) {
            if (length < bytes.length) {
                bytes[length] = b;
                length++;
                parse();
            }
        }

        void shorten(int left) {
            length = left;
            parse();
        }

        int faultPlace() {
            for (int i = 0; i < length; i++) {
                if (!mayStand(bytes[i], i % STEP)) {
                    return i;
                }
            }
            return length == 0 || length % STEP == STEP - 1 ? NONE : length;
        }

        int part(int entry, int what) {
            if (entry < 0 || entry >= entries) {
                return BAD;
            }
            switch (what) {
                case 0: return first[entry];
                case 1: return second[entry];
                case 2: return third[entry];
                default: return BAD;
            }
        }

        private boolean mayStand(int b, int place) {
            switch (place) {
                case 0: return b >= '1' && b <= (ofPeople ? '9' : '5');
                case 1: return ofPeople ? b >= '0' && b <= '9' : b >= '1' && b <= '5';
                case 2: return ofPeople ? b == '.' || b >= 'a' && b <= 'h' : b == 'o' || b == 'u';
                default: return b == ';';
            }
        }

        private void parse() {
            entries = faultPlace() == NONE ? (length + 1) / STEP : 0;
            for (int e = 0; e < entries; e++) {
                first[e] = bytes[STEP * e] - '0';
                second[e] = bytes[STEP * e + 1] - '0';
                third[e] = ofPeople ? smellOf(e) : bytes[STEP * e + 2] == 'u' ? 1 : 0;
            }
        }

        private int smellOf(int person) {
            int owner = bytes[STEP * person + 2] - 'a';
            return owner >= 0 && owner < entries ? owner : person;
        }
    }

    /** Rows as told, each of an hour, a thing and one number more, with room for what may be. */
    private static final class Told {
        private final int most;
        private final int[] hours;
        private final int[] things;
        private final int[] others;
        /** The rows' numbers by hours, those of one hour as told. */
        private final int[] order;
        private int size = 0;

        Told(int most, int room) {
            this.most = most;
            hours = new int[most + room];
            things = new int[most + room];
            others = new int[most + room];
            order = new int[most + room];
        }

        boolean isFull() {
            return size >= most;
        }

        void add(int hour, int thing, int other) {
            if (size >= order.length) {
                return;
            }
            int place = size;
            for (; place > 0 && hours[order[place - 1]] > hour; place--) {
                order[place] = order[place - 1];
            }
            order[place] = size;
            hours[size] = hour;
            things[size] = thing;
            others[size] = other;
            size++;
        }

        void drop() {
            if (size == 0) {
                return;
            }
            size--;
            boolean behind = false;
            for (int i = 0; i < size; i++) {
                behind = behind || order[i] == size;
                if (behind) {
                    order[i] = order[i + 1];
                }
            }
        }

        void clear() {
            size = 0;
        }
    }

    /**
     * The layers of one thing, from the last that came on: over all others they begin, or where
     * the last is under, they end.
     */
    private static final class Layers {
        private final int[] smells = new int[MOST_LAYERS];
        private final int[] strengths = new int[MOST_LAYERS];
        private final int[] fasts = new int[MOST_LAYERS];
        private int size = 0;
        private boolean lastUnder = false;

        void begin(boolean lastUnder) {
            this.lastUnder = lastUnder;
            size = 0;
        }

        /** The place of the i-th layer from over all others on, NONE if there is none. */
        private int placeOf(int i) {
            if (i < 0 || i >= size) {
                return NONE;
            }
            return lastUnder ? size - 1 - i : i;
        }

        int smellAt(int i) {
            int place = placeOf(i);
            return place == NONE ? NONE : smells[place];
        }

        int strengthAt(int i) {
            int place = placeOf(i);
            return place == NONE ? NONE : strengths[place];
        }

        int toldBy(int nose) {
            int bits = 0;
            for (int i = 0; i < size && i < nose; i++) {
                bits |= 1 << smells[lastUnder ? size - 1 - i : i];
            }
            return bits;
        }

        void fade() {
            int left = 0;
            for (int i = 0; i < size; i++) {
                int strength = strengths[i] - fasts[i];
                if (strength > 0) {
                    smells[left] = smells[i];
                    strengths[left] = strength;
                    fasts[left] = fasts[i];
                    left++;
                }
            }
            size = left;
        }

        /** A layer comes: the one of that smell makes place for it, or else, where no more are kept, the farthest. */
        void come(int smell, int strength, int fast, int keeps) {
            int place = 0;
            while (place < size && smells[place] != smell) {
                place++;
            }
            if (place == size && size < keeps && size < MOST_LAYERS) {
                size++;
            }
            for (int i = place < size ? place : size - 1; i > 0; i--) {
                smells[i] = smells[i - 1];
                strengths[i] = strengths[i - 1];
                fasts[i] = fasts[i - 1];
            }
            smells[0] = smell;
            strengths[0] = strength;
            fasts[0] = fast;
        }

        void loseOver() {
            for (int i = 0; i + 1 < size && !lastUnder; i++) {
                smells[i] = smells[i + 1];
                strengths[i] = strengths[i + 1];
                fasts[i] = fasts[i + 1];
            }
            if (size > 0) {
                size--;
            }
        }
    }

    /** Things, people and what was told of them, and how the hours pass. */
    private static final class House {
        private final Text things = new Text(false);
        private final Text people = new Text(true);
        // a day by lot tells of one sitting more in each hour
        private final Told sittings = new Told(MOST_SITTINGS, HOURS);
        private final Told windows = new Told(MOST_WINDOWS, MOST_AIRINGS);
        private final Layers layers = new Layers();

        boolean lacksThing(int thing) {
            return thing < 0 || thing >= things.entries;
        }

        boolean lacksPerson(int person) {
            return person < 0 || person >= people.entries;
        }

        /**
         * What a thing tells, as bits; its layers are left in {@code layers}. In each hour of
         * {@code draughts} (bits) it is aired once more, behind its windows.
         */
        int tellsBehind(int thing, int hour, int draughts) {
            if (lacksThing(thing)) {
                return 0;
            }
            layers.begin(things.third[thing] == 1);
            int sat = 0;
            int opened = 0;
            for (int h = 0; h <= hour; h++) {
                layers.fade();
                for (; sat < sittings.size && sittings.hours[sittings.order[sat]] == h; sat++) {
                    int row = sittings.order[sat];
                    int person = sittings.others[row];
                    if (sittings.things[row] == thing && !lacksPerson(person)) {
                        int smell = people.third[person];
                        layers.come(smell, people.first[person], people.second[smell], things.first[thing]);
                    }
                }
                for (; opened < windows.size && windows.hours[windows.order[opened]] == h; opened++) {
                    if (windows.things[windows.order[opened]] == thing) {
                        layers.loseOver();
                    }
                }
                if (holds(draughts, h)) {
                    layers.loseOver();
                }
            }
            return layers.toldBy(things.second[thing]);
        }

        int allTell(int hour, int some) {
            int bits = 0;
            for (int t = 0; t < things.entries; t++) {
                if (holds(some, t)) {
                    bits |= tellsBehind(t, hour, 0);
                }
            }
            return bits;
        }

        int layersAtTheEnd() {
            int all = 0;
            for (int t = 0; t < things.entries; t++) {
                tellsBehind(t, HOURS - 1, 0);
                all += layers.size;
            }
            return all;
        }

        /** Pairs of smells that are told, and never apart: the bit of each is 8 times the lesser and the greater. */
        long inseparable() {
            long together = 0;
            long apart = 0;
            for (int t = 0; t < things.entries; t++) {
                for (int hour = 0; hour < HOURS; hour++) {
                    int told = tellsBehind(t, hour, 0);
                    for (int a = 0; a < MOST_PEOPLE; a++) {
                        for (int b = a + 1; b < MOST_PEOPLE; b++) {
                            long pair = 1L << (MOST_PEOPLE * a + b);
                            if (holds(told, a) != holds(told, b)) {
                                apart |= pair;
                            } else if (holds(told, a)) {
                                together |= pair;
                            }
                        }
                    }
                }
            }
            return together & ~apart;
        }

        int tellsByLot(int seed, int hour, int thing) {
            int told = sittings.size;
            int lot = seed;
            for (int h = 0; h <= hour && people.entries > 0 && things.entries > 0; h++) {
                lot = nextLot(lot);
                int person = (lot >>> 16) % people.entries;
                lot = nextLot(lot);
                sittings.add(h, (lot >>> 16) % things.entries, person);
            }
            int bits = tellsBehind(thing, hour, 0);
            for (int left = sittings.size; left > told; left--) {
                sittings.drop();
            }
            return bits;
        }

        private static int nextLot(int lot) {
            return 1103515245 * lot + 12345;
        }
    }

    /**
     * The fewest sittings or windows more by which things tell as wanted. A sitting or a window
     * changes its own thing alone: so each thing has its own fewest, and the least row of all is
     * the things' least rows one behind the other.
     */
    private static final class Plan {
        private final House house;
        private final int[] row = new int[Math.max(MOST_SITTERS, MOST_AIRINGS)];
        private int size = 0;
        private int hour = 0;
        private int behind = 0;
        private int looked = 0;
        private int wanted = 0;

        Plan(House house) {
            this.house = house;
        }

        /** Wanted: that of the smells looked at (bits) just these (bits) are told. */
        void aim(int hour, int behind, int looked, int wanted) {
            this.hour = hour;
            this.behind = behind;
            this.looked = looked;
            this.wanted = wanted;
            size = 0;
        }

        int answer(int i) {
            if (size == NONE || i == NONE) {
                return size;
            }
            return i >= 0 && i < size && i < row.length ? row[i] : NONE;
        }

        void seat(int things, int except) {
            for (int t = 0; t < house.things.entries && size != NONE; t++) {
                if (holds(things, t) && !comesOut(t) && !seatOne(t, except) && !seatTwo(t, except)) {
                    size = NONE;
                }
            }
        }

        private boolean seatOne(int thing, int except) {
            for (int p = 0; p < house.people.entries; p++) {
                if (p != except && comesOutWith(thing, p)) {
                    take(MOST_PEOPLE * thing + p, MOST_SITTERS);
                    return true;
                }
            }
            return false;
        }

        private boolean seatTwo(int thing, int except) {
            for (int p = 0; p < house.people.entries; p++) {
                if (p == except) {
                    continue;
                }
                house.sittings.add(hour, thing, p);
                int second = NONE;
                for (int q = p + 1; q < house.people.entries && second == NONE; q++) {
                    if (q != except && comesOutWith(thing, q)) {
                        second = q;
                    }
                }
                house.sittings.drop();
                if (second != NONE) {
                    take(MOST_PEOPLE * thing + p, MOST_SITTERS);
                    take(MOST_PEOPLE * thing + second, MOST_SITTERS);
                    return true;
                }
            }
            return false;
        }

        private boolean comesOutWith(int thing, int person) {
            house.sittings.add(hour, thing, person);
            int told = house.tellsBehind(thing, behind, 0);
            house.sittings.drop();
            return (told & looked) == wanted;
        }

        void open(int things) {
            for (int t = 0; t < house.things.entries && size != NONE; t++) {
                if (holds(things, t)) {
                    openAt(t);
                }
            }
        }

        private void openAt(int thing) {
            int opened = 0;
            while (opened < MOST_AIRINGS && !comesOut(thing)) {
                house.windows.add(hour, thing, 0);
                opened++;
            }
            boolean well = comesOut(thing);
            for (int i = 0; i < opened; i++) {
                house.windows.drop();
                take(thing, MOST_AIRINGS);
            }
            if (!well) {
                size = NONE;
            }
        }

        private boolean comesOut(int thing) {
            return (house.tellsBehind(thing, behind, 0) & looked) == wanted;
        }

        private void take(int item, int most) {
            if (size == NONE || size >= most || size >= row.length) {
                size = NONE;
            } else {
                row[size] = item;
                size++;
            }
        }
    }

    /** Who was where, from what was smelt. */
    private static final class Guess {
        private final House house;
        private final Told smeltRows;
        private final int[] toldBy = new int[MOST_PEOPLE];

        Guess(House house, Told smeltRows) {
            this.house = house;
            this.smeltRows = smeltRows;
        }

        private boolean comesOut() {
            for (int k = 0; k < smeltRows.size; k++) {
                if (house.tellsBehind(smeltRows.things[k], smeltRows.hours[k], 0) != smeltRows.others[k]) {
                    return false;
                }
            }
            return true;
        }

        int hoursOf(int person, int thing) {
            int bits = 0;
            for (int hour = 0; hour < HOURS; hour++) {
                house.sittings.add(hour, thing, person);
                if (comesOut()) {
                    bits |= 1 << hour;
                }
                house.sittings.drop();
            }
            return bits;
        }

        int sittersOf(int sitting) {
            if (sitting < 0 || sitting >= house.sittings.size) {
                return 0;
            }
            int told = house.sittings.others[sitting];
            int bits = 0;
            for (int p = 0; p < house.people.entries; p++) {
                house.sittings.others[sitting] = p;
                if (comesOut()) {
                    bits |= 1 << p;
                }
            }
            house.sittings.others[sitting] = told;
            return bits;
        }

        int tellingThing(int sitting, int hour) {
            int sitters = sittersOf(sitting);
            int best = NONE;
            int fewest = MOST_PEOPLE + 1;
            for (int t = 0; t < house.things.entries; t++) {
                int alike = mostAlike(t, sitting, hour, sitters);
                if (alike < fewest) {
                    fewest = alike;
                    best = t;
                }
            }
            return best;
        }

        private int mostAlike(int thing, int sitting, int hour, int sitters) {
            if (sitting < 0 || sitting >= house.sittings.size) {
                return 0;
            }
            int told = house.sittings.others[sitting];
            int most = 0;
            for (int p = 0; p < toldBy.length; p++) {
                if (!holds(sitters, p)) {
                    continue;
                }
                house.sittings.others[sitting] = p;
                toldBy[p] = house.tellsBehind(thing, hour, 0);
                int alike = 0;
                for (int q = 0; q <= p; q++) {
                    if (holds(sitters, q) && toldBy[q] == toldBy[p]) {
                        alike++;
                    }
                }
                most = Math.max(most, alike);
            }
            house.sittings.others[sitting] = told;
            return most;
        }
    }

    /** A fraction in lowest terms, 0 by 1 where there is nothing to divide by. */
    private static final class Fraction {
        private static final int STEPS = 200;

        private long above = 0;
        private long below = 1;

        void become(long above, long below) {
            long divisor = Math.max(above, below);
            long rest = Math.min(above, below);
            for (int step = 0; step < STEPS && rest != 0; step++) {
                long next = divisor % rest;
                divisor = rest;
                rest = next;
            }
            boolean nothing = above == 0 || below == 0 || divisor == 0;
            this.above = nothing ? 0 : above / divisor;
            this.below = nothing ? 1 : below / divisor;
        }
    }

    /** A row of bytes, shorts or ints, or none. */
    private static final class Sheet {
        private final int[] items = new int[MOST_ITEMS];
        private int form = 0;
        private int length = NONE;

        boolean isLost() {
            return length == NONE;
        }

        void beLost() {
            length = NONE;
        }

        void renew(int form, int n) {
            this.form = form;
            length = n;
            Arrays.fill(items, 0);
        }

        boolean lacksItem(int i) {
            return i < 0 || i >= length || i >= items.length;
        }

        boolean lacksRun(int from, int n) {
            return from < 0 || from > length || n > length - from;
        }

        int item(int i) {
            return lacksItem(i) ? 0 : items[i];
        }

        /** The finding by which item i cannot be had as of a form, 0 if it can. */
        int wrongWith(int form, int i) {
            if (isLost()) {
                return NULL;
            }
            if (this.form != form) {
                return CAST;
            }
            return lacksItem(i) ? INDEX : 0;
        }

        void store(int i, int v) {
            if (!lacksItem(i)) {
                items[i] = form == 0 ? (byte) v : form == 1 ? (short) v : v;
            }
        }
    }
}
