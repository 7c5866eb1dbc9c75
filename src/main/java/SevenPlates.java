import java.util.Arrays;

/** Who has eaten from my plate: things, guests, evenings, and what can be told from what is left. */
public final class SevenPlates {
    public static final int UNKNOWN = -1, OUTSIDE = -2, STATE = -3, FULL = -4, NO = -5, NONE = -6;
    public static final long GONE = -1000000000000000000L;

    private static final int MOST_THINGS = 7, MOST_GUESTS = 4, MOST_SIGNS = 40, MOST_IMAGES = 2;
    private static final int MOST_LEFT = 9, HOT = 9;
    private static final int LONGEST_ROW = 6, LONGEST_LOCK = 5, LONGEST_YEAR = 60, GREATEST_SEED = 9999;
    private static final int SIZE = 0, LAID = 1, LOCKED = 2, LEFT = 3, WARM = 4, SIGHT = 5;
    private static final int HUNGER = 1, HABIT = 2, OFTEN = 3;
    private static final int NEAREST = 0, FULLEST = 1, NEXT = 2, ENOUGH = 3;
    private static final int NO_SUCH_GUEST = 1, NOTHING_TO_TAKE = 2;
    private static final int FINE = 0, NOBODY_BIT = 16;

    private final Table now = new Table();
    private final Table[] images = {new Table(), new Table()};
    private final boolean[] kept = new boolean[MOST_IMAGES];
    private final Pad pad = new Pad();
    private final Course course = new Course(now);
    private final Evening evening = new Evening(now, course);
    private final Rows fitting = new Rows(now, course);
    private final Beliefs beliefs = new Beliefs(now, course);
    private final Leavings leavings = new Leavings(course);
    private final Twos twos = new Twos(now, course);

    public SevenPlates() {
    }

    // ---- 1 things, guests

    public int things(int n) {
        if (n < 1 || n > MOST_THINGS) return OUTSIDE;
        int before = now.things;
        now.asAtFirst(n);
        return before;
    }

    public int thing(int thing, int what, int v) {
        if (!now.hasThing(thing)) return UNKNOWN;
        if (what < SIZE || what > LEFT) return OUTSIDE;
        if (v < 0 || v > (what == LOCKED ? 1 : MOST_LEFT)) return OUTSIDE;
        if (what == LEFT && v > now.laid[thing]) return STATE;
        int before = now.ofThing(thing, what);
        now.change(thing, what, v);
        return before;
    }

    public int guest(int guest, int size, int hunger, int habit, int often) {
        if (guest < 0 || guest >= MOST_GUESTS) return UNKNOWN;
        if (size < 0 || size > 9 || hunger < 1 || hunger > 9) return OUTSIDE;
        if (habit < NEAREST || habit > ENOUGH || often < 1 || often > 9) return OUTSIDE;
        now.welcome(guest, size, hunger, habit, often);
        return Integer.bitCount(now.guests);
    }

    public int leave(int guest) {
        if (!now.hasGuest(guest)) return UNKNOWN;
        now.guests &= ~(1 << guest);
        return Integer.bitCount(now.guests);
    }

    public int say(int sign) {
        if (sign < 33 || sign > 126) return OUTSIDE;
        return pad.add(sign);
    }

    public int wipe() {
        int before = pad.count;
        pad.count = 0;
        return before;
    }

    public int fault() {
        return pad.firstFault(now.things);
    }

    // ---- 2 evenings

    public int judge(int what) {
        if (what < 0 || what > 3) return OUTSIDE;
        int refusal = runEvening();
        if (refusal == NO || (refusal == STATE && what >= 2)) return refusal;
        switch (what) {
            case 0: return evening.badPart;
            case 1: return evening.why;
            case 2: return evening.came;
            default: return evening.eaten;
        }
    }

    public int used(int part) {
        int refusal = runEvening();
        if (refusal != FINE) return refusal;
        if (part < 0 || part >= pad.count) return OUTSIDE;
        return evening.taken[part];
    }

    public int behind(int thing, int what) {
        if (!now.hasThing(thing)) return UNKNOWN;
        if (what < 0 || what > 3) return OUTSIDE;
        int refusal = runEvening();
        if (refusal != FINE) return refusal;
        switch (what) {
            case 0: return course.left[thing];
            case 1: return evening.warm[thing];
            case 2: return evening.first[thing];
            default: return evening.last[thing];
        }
    }

    public int done() {
        int refusal = runEvening();
        if (refusal != FINE) return refusal;
        System.arraycopy(course.left, 0, now.left, 0, MOST_THINGS);
        System.arraycopy(evening.warm, 0, now.warm, 0, MOST_THINGS);
        int parts = pad.count;
        pad.count = 0;
        return parts;
    }

    public int state(int thing, int what) {
        if (!now.hasThing(thing)) return UNKNOWN;
        if (what < 0 || what > 1) return OUTSIDE;
        return now.ofThing(thing, what == 0 ? LEFT : WARM);
    }

    public int eats(int guest) {
        if (!now.hasGuest(guest)) return UNKNOWN;
        course.begin();
        return course.choice(guest);
    }

    // ---- 3 who it was

    public int seen(int thing, int left) {
        if (!now.hasThing(thing)) return UNKNOWN;
        if (left < 0 || left > MOST_LEFT) return OUTSIDE;
        now.sight[thing] = left;
        return Integer.bitCount(now.sightBits());
    }

    public int forget() {
        int before = Integer.bitCount(now.sightBits());
        Arrays.fill(now.sight, NONE);
        return before;
    }

    public int rows(int m, int what) {
        if (!isRowLength(m) || what < 0 || what > 9) return OUTSIDE;
        fitting.gather(now.sight, m);
        switch (what) {
            case 0: return fitting.count;
            case 1: return fitting.fewest;
            case 2: return fitting.sure;
            case 3: return fitting.maybe;
            default: return fitting.atPlace(what - 4);
        }
    }

    public int cup(int thing, int m) {
        if (!now.hasThing(thing)) return UNKNOWN;
        if (!isRowLength(m)) return OUTSIDE;
        fitting.gather(now.sight, m);
        return fitting.cups[thing];
    }

    public int look(int m, int what) {
        if (!isRowLength(m) || what < 0 || what > 1) return OUTSIDE;
        fitting.gather(now.sight, m);
        int thing = fitting.bestToLookAt();
        if (thing == NONE || what == 0) return thing;
        return fitting.mostLeftOver(thing);
    }

    public long belief(int m, int guest, int part) {
        if (guest != -1 && !now.hasGuest(guest)) return GONE + UNKNOWN;
        if (!isRowLength(m) || part < 0 || part > 1) return GONE + OUTSIDE;
        if (now.guests == 0) return GONE + STATE;
        beliefs.weigh(m, guest);
        return part == 0 ? beliefs.upper : beliefs.lower;
    }

    // ---- 4 tables, locks

    public int alike(int i) {
        course.begin();
        return i == -1 ? twos.howMany() : twos.atPlace(i);
    }

    public int lay(int what) {
        if (what < 0 || what > 1) return OUTSIDE;
        course.begin();
        int bits = twos.fewestLaidAnew();
        if (bits == NONE || what == 1) return bits;
        return Integer.bitCount(bits);
    }

    public int hide() {
        int refusal = runEvening();
        if (refusal != FINE) return refusal;
        int bits = 0;
        for (int thing = 0; thing < now.things; thing++) {
            if (course.left[thing] != now.left[thing]) bits |= 1 << thing;
        }
        return bits;
    }

    public int trace() {
        int refusal = runEvening();
        if (refusal != FINE) return refusal;
        // What the evening leaves is just what a watcher would have seen of all things.
        Arrays.fill(evening.leaves, NONE);
        System.arraycopy(course.left, 0, evening.leaves, 0, now.things);
        fitting.gather(evening.leaves, LONGEST_ROW);
        return fitting.fewest;
    }

    public int lock(int thing, int m) {
        if (thing != -1 && !now.hasThing(thing)) return UNKNOWN;
        if (m < 0 || m > LONGEST_LOCK) return OUTSIDE;
        course.begin();
        if (thing >= 0) course.locked |= 1 << thing;
        return leavings.howMany(m);
    }

    public int year(int seed, int m, int what) {
        if (seed < 0 || seed > GREATEST_SEED || m < 1 || m > LONGEST_YEAR) return OUTSIDE;
        if (what < 0 || what > 2) return OUTSIDE;
        int x = seed;
        int eaten = 0, often = 0, untouched = 0;
        for (int e = 0; e < m; e++) {
            course.begin();
            int ahead = eaten;
            for (int draw = 0; draw < 3; draw++) {
                x = (75 * x + 74) % 65537;
                int bite = course.visit(x % 4);
                eaten += bite;
                if (bite > 0 && course.last == 0) often++;
            }
            // Who uses a thing always takes something, and nothing is filled again.
            if (eaten == ahead) untouched++;
        }
        return what == 0 ? eaten : what == 1 ? often : untouched;
    }

    public int image(int k) {
        if (k < 0 || k >= MOST_IMAGES) return OUTSIDE;
        images[k].copyFrom(now);
        kept[k] = true;
        return 1;
    }

    public int restore(int k) {
        if (k < 0 || k >= MOST_IMAGES) return OUTSIDE;
        if (!kept[k]) return STATE;
        now.copyFrom(images[k]);
        return 1;
    }

    public int told(int what) {
        switch (what) {
            case 0: return pad.count;
            case 1: return now.things;
            case 2: return now.guests;
            case 3: return now.sightBits();
            default: break;
        }
        if (what >= 100) return toldOfGuest(what / 100 - 1, what % 100);
        if (what >= 10) return toldOfThing(what / 10 - 1, what % 10);
        return OUTSIDE;
    }

    private int toldOfThing(int thing, int what) {
        return now.hasThing(thing) && what <= SIGHT ? now.ofThing(thing, what) : OUTSIDE;
    }

    private int toldOfGuest(int guest, int what) {
        return now.hasGuest(guest) && what <= OFTEN ? now.ofGuest(guest, what) : OUTSIDE;
    }

    private static boolean isRowLength(int m) {
        return m >= 0 && m <= LONGEST_ROW;
    }

    /** Why the evening on the pad is refused, or FINE; course and evening tell of it then. */
    private int runEvening() {
        if (pad.firstFault(now.things) != NONE) return NO;
        evening.run(pad);
        return evening.badPart == NONE ? FINE : STATE;
    }

    /** All that an image keeps: things, guests, sights. */
    private static final class Table {
        private int things;
        private int locked;
        private int guests;
        private final int[] size = new int[MOST_THINGS];
        private final int[] laid = new int[MOST_THINGS];
        private final int[] left = new int[MOST_THINGS];
        private final int[] warm = new int[MOST_THINGS];
        private final int[] sight = new int[MOST_THINGS];
        private final int[] girth = new int[MOST_GUESTS];
        private final int[] hunger = new int[MOST_GUESTS];
        private final int[] habit = new int[MOST_GUESTS];
        private final int[] often = new int[MOST_GUESTS];

        private Table() {
            asAtFirst(MOST_THINGS);
        }

        private void asAtFirst(int n) {
            things = n;
            locked = 0;
            for (int thing = 0; thing < MOST_THINGS; thing++) size[thing] = thing;
            Arrays.fill(laid, MOST_LEFT);
            Arrays.fill(left, MOST_LEFT);
            Arrays.fill(warm, 0);
            Arrays.fill(sight, NONE);
        }

        private boolean hasThing(int thing) {
            return thing >= 0 && thing < things;
        }

        private boolean hasGuest(int guest) {
            return guest >= 0 && guest < MOST_GUESTS && (guests >> guest & 1) == 1;
        }

        private int ofThing(int thing, int what) {
            switch (what) {
                case SIZE: return size[thing];
                case LAID: return laid[thing];
                case LOCKED: return locked >> thing & 1;
                case LEFT: return left[thing];
                case WARM: return warm[thing];
                default: return sight[thing];
            }
        }

        private int ofGuest(int guest, int what) {
            switch (what) {
                case SIZE: return girth[guest];
                case HUNGER: return hunger[guest];
                case HABIT: return habit[guest];
                default: return often[guest];
            }
        }

        private void change(int thing, int what, int v) {
            switch (what) {
                case SIZE:
                    size[thing] = v;
                    break;
                case LAID:
                    laid[thing] = v;
                    left[thing] = v;
                    warm[thing] = 0;
                    break;
                case LOCKED:
                    locked = (locked & ~(1 << thing)) | v << thing;
                    break;
                default:
                    left[thing] = v;
                    break;
            }
        }

        private void welcome(int guest, int itsSize, int itsHunger, int itsHabit, int itsOften) {
            guests |= 1 << guest;
            girth[guest] = itsSize;
            hunger[guest] = itsHunger;
            habit[guest] = itsHabit;
            often[guest] = itsOften;
        }

        private int sightBits() {
            int bits = 0;
            for (int thing = 0; thing < MOST_THINGS; thing++) {
                if (sight[thing] != NONE) bits |= 1 << thing;
            }
            return bits;
        }

        private void copyFrom(Table other) {
            things = other.things;
            locked = other.locked;
            guests = other.guests;
            System.arraycopy(other.size, 0, size, 0, MOST_THINGS);
            System.arraycopy(other.laid, 0, laid, 0, MOST_THINGS);
            System.arraycopy(other.left, 0, left, 0, MOST_THINGS);
            System.arraycopy(other.warm, 0, warm, 0, MOST_THINGS);
            System.arraycopy(other.sight, 0, sight, 0, MOST_THINGS);
            System.arraycopy(other.girth, 0, girth, 0, MOST_GUESTS);
            System.arraycopy(other.hunger, 0, hunger, 0, MOST_GUESTS);
            System.arraycopy(other.habit, 0, habit, 0, MOST_GUESTS);
            System.arraycopy(other.often, 0, often, 0, MOST_GUESTS);
        }
    }

    /** The signs of an evening. */
    private static final class Pad {
        private int count;
        private final int[] signs = new int[MOST_SIGNS];

        /** How many signs there are then, or FULL. */
        private int add(int sign) {
            if (count >= MOST_SIGNS) return FULL;
            signs[count] = sign;
            count++;
            return count;
        }

        private int firstFault(int things) {
            for (int place = 0; place < count; place++) {
                if (!canStand(signs[place], things)) return place;
            }
            return NONE;
        }

        private static boolean canStand(int sign, int things) {
            return sign == '.' || isGuest(sign) || (sign >= '0' && sign < '0' + things);
        }

        private static boolean isGuest(int sign) {
            return sign >= 'A' && sign < 'A' + MOST_GUESTS;
        }
    }

    /** What is left while guests come one behind another, from what is left now on. */
    private static final class Course {
        private final Table table;
        private final int[] left = new int[MOST_THINGS];
        private int locked;
        private int last;

        private Course(Table table) {
            this.table = table;
        }

        private void begin() {
            System.arraycopy(table.left, 0, left, 0, MOST_THINGS);
            locked = table.locked;
            last = NONE;
        }

        /** The thing that a guest takes, or NONE. */
        private int choice(int guest) {
            int best = NONE, least = 0;
            for (int thing = 0; thing < table.things; thing++) {
                if ((locked >> thing & 1) == 1 || left[thing] == 0) continue;
                int rank = rank(guest, thing);
                if (best == NONE || rank < least) {
                    best = thing;
                    least = rank;
                }
            }
            return best;
        }

        /** The less, the rather the guest takes the thing; of several that are equal, the least. */
        private int rank(int guest, int thing) {
            switch (table.habit[guest]) {
                case NEAREST: return Math.abs(table.size[thing] - table.girth[guest]);
                case FULLEST: return -left[thing];
                // NONE is below every thing: with none used yet they stand in their own order.
                case NEXT: return thing > last ? thing : thing + MOST_THINGS;
                default: return left[thing] >= table.hunger[guest] ? 0 : 1;
            }
        }

        /** The guest uses the thing: how much is eaten. */
        private int use(int guest, int thing) {
            int bite = bite(guest, thing);
            left[thing] -= bite;
            last = thing;
            return bite;
        }

        private int bite(int guest, int thing) {
            return Math.min(table.hunger[guest], left[thing]);
        }

        private void takeBack(int thing, int bite, int lastAhead) {
            left[thing] += bite;
            last = lastAhead;
        }

        /** The guest comes, if there is such and something to use: how much is eaten. */
        private int visit(int guest) {
            if (!table.hasGuest(guest)) return 0;
            int thing = choice(guest);
            return thing == NONE ? 0 : use(guest, thing);
        }

        /**
         * How much must still be eaten until all is as seen, or NONE if less is left than was seen: as a row
         * fills nothing again, no guest more can mend that.
         */
        private int stillToEat(int[] sights) {
            int sum = 0;
            for (int thing = 0; thing < table.things; thing++) {
                if (sights[thing] == NONE) continue;
                if (left[thing] < sights[thing]) return NONE;
                sum += left[thing] - sights[thing];
            }
            return sum;
        }

        /** What is left of all things, as one number with a digit for each. */
        private int asNumber() {
            int number = 0;
            for (int thing = 0; thing < table.things; thing++) number = 10 * number + left[thing];
            return number;
        }
    }

    /** An evening from its first part on to its end, or to the first part that can not be. */
    private static final class Evening {
        private final Table table;
        private final Course course;
        private final int[] warm = new int[MOST_THINGS];
        private final int[] first = new int[MOST_THINGS];
        private final int[] last = new int[MOST_THINGS];
        private final int[] leaves = new int[MOST_THINGS];
        private final int[] taken = new int[MOST_SIGNS];
        private int badPart, why, came, eaten;

        private Evening(Table table, Course course) {
            this.table = table;
            this.course = course;
        }

        /** The pad is one without a fault. */
        private void run(Pad pad) {
            begin();
            for (int part = 0; part < pad.count; part++) {
                int sign = pad.signs[part];
                taken[part] = NONE;
                if (Pad.isGuest(sign)) {
                    comes(sign - 'A', part);
                } else if (sign == '.') {
                    cool();
                } else {
                    fill(sign - '0');
                }
                if (badPart != NONE) return;
            }
        }

        private void begin() {
            course.begin();
            System.arraycopy(table.warm, 0, warm, 0, MOST_THINGS);
            Arrays.fill(first, NONE);
            Arrays.fill(last, NONE);
            badPart = NONE;
            why = NONE;
            came = 0;
            eaten = 0;
        }

        private void comes(int guest, int part) {
            if (!table.hasGuest(guest)) {
                fail(part, NO_SUCH_GUEST);
                return;
            }
            int thing = course.choice(guest);
            if (thing == NONE) {
                fail(part, NOTHING_TO_TAKE);
                return;
            }
            came++;
            eaten += course.use(guest, thing);
            taken[part] = thing;
            warm[thing] = HOT;
            if (first[thing] == NONE) first[thing] = guest;
            last[thing] = guest;
        }

        private void fail(int part, int reason) {
            badPart = part;
            why = reason;
        }

        private void cool() {
            for (int thing = 0; thing < MOST_THINGS; thing++) warm[thing] = Math.max(0, warm[thing] - 1);
        }

        private void fill(int thing) {
            if (table.hasThing(thing)) course.left[thing] = table.laid[thing];
        }
    }

    /** All rows that leave what was seen, gathered in one walk. */
    private static final class Rows {
        private final Table table;
        private final Course course;
        private final int[] sights = new int[MOST_THINGS];
        private final int[] row = new int[LONGEST_ROW];
        private final int[] firstUser = new int[MOST_THINGS];
        private int count, fewest, sure, maybe;
        private final int[] least = new int[LONGEST_ROW];
        private final int[] cups = new int[MOST_THINGS];
        private final int[][] rowsByLeft = new int[MOST_THINGS][MOST_LEFT + 1];

        private Rows(Table table, Course course) {
            this.table = table;
            this.course = course;
        }

        private void gather(int[] wanted, int most) {
            System.arraycopy(wanted, 0, sights, 0, MOST_THINGS);
            Arrays.fill(firstUser, NONE);
            Arrays.fill(cups, 0);
            for (int thing = 0; thing < MOST_THINGS; thing++) Arrays.fill(rowsByLeft[thing], 0);
            count = 0;
            fewest = NONE;
            sure = 0;
            maybe = 0;
            course.begin();
            walk(0, 0, Math.min(most, LONGEST_ROW));
        }

        /** The row so far has so many guests, these as bits; no row is longer than most. */
        private void walk(int length, int who, int most) {
            int still = course.stillToEat(sights);
            if (still == 0) note(length, who);
            if (still == NONE || length >= most) return;
            for (int guest = 0; guest < MOST_GUESTS; guest++) {
                int thing = table.hasGuest(guest) ? course.choice(guest) : NONE;
                if (thing == NONE) continue;
                int lastAhead = course.last;
                int bite = course.use(guest, thing);
                boolean isFirst = firstUser[thing] == NONE;
                if (isFirst) firstUser[thing] = guest;
                row[length] = guest;
                walk(length + 1, who | 1 << guest, most);
                if (isFirst) firstUser[thing] = NONE;
                course.takeBack(thing, bite, lastAhead);
            }
        }

        private void note(int length, int who) {
            sure = count == 0 ? who : sure & who;
            maybe |= who;
            // The walk meets rows of one length in their order: only a shorter one comes ahead.
            if (count == 0 || length < fewest) {
                fewest = length;
                System.arraycopy(row, 0, least, 0, length);
            }
            count++;
            for (int thing = 0; thing < table.things; thing++) {
                cups[thing] |= firstUser[thing] == NONE ? NOBODY_BIT : 1 << firstUser[thing];
                rowsByLeft[thing][course.left[thing]]++;
            }
        }

        private int atPlace(int place) {
            return place >= 0 && place < fewest && place < LONGEST_ROW ? least[place] : NONE;
        }

        private int bestToLookAt() {
            if (count == 0) return NONE;
            int best = NONE, fewestLeft = 0;
            for (int thing = 0; thing < table.things; thing++) {
                if (sights[thing] != NONE) continue;
                int most = mostLeftOver(thing);
                if (best == NONE || most < fewestLeft) {
                    best = thing;
                    fewestLeft = most;
                }
            }
            return best;
        }

        private int mostLeftOver(int thing) {
            int most = 0;
            for (int left = 0; left <= MOST_LEFT; left++) most = Math.max(most, rowsByLeft[thing][left]);
            return most;
        }
    }

    /** How likely it is that guests who come by their own often leave what was seen. */
    private static final class Beliefs {
        private final Table table;
        private final Course course;
        private long upper, lower;

        private Beliefs(Table table, Course course) {
            this.table = table;
            this.course = course;
        }

        /** So many guests come, the first of whom is a told one (-1: anybody). */
        private void weigh(int m, int guest) {
            int all = 0;
            for (int each = 0; each < MOST_GUESTS; each++) {
                if (table.hasGuest(each)) all += table.often[each];
            }
            lower = 1;
            for (int i = 0; i < m; i++) lower *= all;
            course.begin();
            upper = m == 0 && guest != -1 ? 0 : ways(Math.min(m, LONGEST_ROW), guest);
            reduce();
        }

        /** How often, of all times, so many guests more leave what was seen; told (-1: anybody) is the first. */
        private long ways(int more, int told) {
            int still = course.stillToEat(table.sight);
            if (still == NONE) return 0;
            if (more <= 0) return still == 0 ? 1 : 0;
            long sum = 0;
            for (int guest = 0; guest < MOST_GUESTS; guest++) {
                if (!table.hasGuest(guest) || (told != -1 && told != guest)) continue;
                int lastAhead = course.last;
                int bite = course.visit(guest);
                int thing = course.last;
                sum += table.often[guest] * ways(more - 1, -1);
                if (bite > 0) course.takeBack(thing, bite, lastAhead);
            }
            return sum;
        }

        private void reduce() {
            long a = upper, b = lower;
            // Euclid's way with numbers below 2^32 takes less than fifty steps.
            for (int i = 0; i < 100 && b != 0; i++) {
                long rest = a % b;
                a = b;
                b = rest;
            }
            if (a > 1) {
                upper /= a;
                lower /= a;
            }
        }
    }

    /** How many different things rows of one length can leave. */
    private static final class Leavings {
        // Twice the 1024 rows of five out of four guests, so that a free place is soon found.
        private static final int PLACES = 2048;

        private final Course course;
        private final int[] found = new int[PLACES];
        private int count;

        private Leavings(Course course) {
            this.course = course;
        }

        private int howMany(int m) {
            Arrays.fill(found, NONE);
            count = 0;
            walk(Math.min(m, LONGEST_LOCK));
            return count;
        }

        private void walk(int more) {
            if (more <= 0) {
                put(course.asNumber());
                return;
            }
            for (int guest = 0; guest < MOST_GUESTS; guest++) {
                int lastAhead = course.last;
                int bite = course.visit(guest);
                if (bite == 0) continue;
                int thing = course.last;
                walk(more - 1);
                course.takeBack(thing, bite, lastAhead);
            }
        }

        private void put(int number) {
            int place = number * 0x9E3779B1 >>> 21;
            for (int i = 0; i < PLACES; i++) {
                if (found[place] == number) return;
                if (found[place] == NONE) {
                    found[place] = number;
                    count++;
                    return;
                }
                place = place + 1 & PLACES - 1;
            }
        }
    }

    /** Guests two by two: who, alone, leaves the same of all things. */
    private static final class Twos {
        private final Table table;
        private final Course course;
        private final int[] doing = new int[MOST_GUESTS];

        private Twos(Table table, Course course) {
            this.table = table;
            this.course = course;
        }

        private boolean areAlike(int lesser, int greater) {
            return table.hasGuest(lesser) && table.hasGuest(greater) && doing[lesser] == doing[greater];
        }

        private int howMany() {
            // Two guests leave the same of all things just if they take as much from the same.
            for (int guest = 0; guest < MOST_GUESTS; guest++) {
                int thing = table.hasGuest(guest) ? course.choice(guest) : NONE;
                doing[guest] = thing == NONE ? NONE : 10 * thing + course.bite(guest, thing);
            }
            int count = 0;
            for (int lesser = 0; lesser < MOST_GUESTS; lesser++) {
                for (int greater = lesser + 1; greater < MOST_GUESTS; greater++) {
                    if (areAlike(lesser, greater)) count++;
                }
            }
            return count;
        }

        private int atPlace(int i) {
            if (i < 0 || i >= howMany()) return NONE;
            int more = i;
            for (int lesser = 0; lesser < MOST_GUESTS; lesser++) {
                for (int greater = lesser + 1; greater < MOST_GUESTS; greater++) {
                    if (!areAlike(lesser, greater)) continue;
                    if (more == 0) return 10 * lesser + greater;
                    more--;
                }
            }
            return NONE;
        }

        /** The fewest things to lay anew, so that no two are alike, as least bits, or NONE. */
        private int fewestLaidAnew() {
            if (howMany() == 0) return 0;
            for (int thing = 0; thing < table.things; thing++) {
                if (helps(thing, thing)) return 1 << thing;
            }
            // Bits rise with the greater thing first, then with the lesser.
            for (int greater = 1; greater < table.things; greater++) {
                for (int lesser = 0; lesser < greater; lesser++) {
                    if (helps(lesser, greater)) return 1 << lesser | 1 << greater;
                }
            }
            return NONE;
        }

        /** Whether two things (or one, named twice) can be laid anew so that no two guests are alike. */
        private boolean helps(int one, int other) {
            if ((table.locked >> one & 1) == 1 || (table.locked >> other & 1) == 1) return false;
            boolean helped = false;
            for (int v = 0; v <= MOST_LEFT && !helped; v++) {
                for (int w = 0; w <= MOST_LEFT && !helped; w++) {
                    course.left[one] = v;
                    course.left[other] = w;
                    helped = howMany() == 0;
                }
            }
            course.left[one] = table.left[one];
            course.left[other] = table.left[other];
            return helped;
        }
    }
}
