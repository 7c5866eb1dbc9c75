import java.math.BigInteger;
import java.util.ArrayList;
import java.util.Arrays;
import java.util.HashSet;
import java.util.List;
import java.util.Set;
import java.util.TreeMap;
import java.util.TreeSet;

/**
 * The document once more, as slowly and as plainly as can be, sharing nothing with the class: every row is
 * written out as a text and played from its start. TwinTest lets both answer the same calls.
 */
final class PlainTwin {
    private static final long UNKNOWN = -1, OUTSIDE = -2, STATE = -3, FULL = -4, NO = -5, NONE = -6;
    private static final long GONE = -1000000000000000000L;

    record Thing(int size, int laid, boolean locked, int left, int warm) {
    }

    record Guest(int size, int hunger, int habit, int often) {
    }

    record World(List<Thing> things, TreeMap<Integer, Guest> guests, TreeMap<Integer, Integer> sights) {
        World copy() {
            return new World(new ArrayList<>(things), new TreeMap<>(guests), new TreeMap<>(sights));
        }
    }

    /** What came of a text: played to its end, or to the first part that can not be. */
    static final class Outcome {
        int bad = -6, why = -6, came, eaten;
        List<Integer> used = new ArrayList<>();
        int[] left, warm, first, last;
    }

    private World world = new World(fresh(7), new TreeMap<>(), new TreeMap<>());
    private final World[] images = new World[2];
    private String pad = "";

    private static List<Thing> fresh(int n) {
        List<Thing> things = new ArrayList<>();
        for (int i = 0; i < n; i++) things.add(new Thing(i, 9, false, 9, 0));
        return things;
    }

    private boolean isThing(int t) {
        return t >= 0 && t < world.things.size();
    }

    private boolean isGuest(int g) {
        return world.guests.containsKey(g);
    }

    private static boolean in(int v, int low, int high) {
        return low <= v && v <= high;
    }

    long call(String name, int[] a) {
        switch (name) {
            case "things": return things(a[0]);
            case "thing": return thing(a[0], a[1], a[2]);
            case "guest": return guest(a);
            case "leave":
                if (!isGuest(a[0])) return UNKNOWN;
                world.guests.remove(a[0]);
                return world.guests.size();
            case "say":
                if (!in(a[0], 33, 126)) return OUTSIDE;
                if (pad.length() == 40) return FULL;
                pad += (char) a[0];
                return pad.length();
            case "wipe": return emptied();
            case "fault": return fault();
            case "judge": return judge(a[0]);
            case "used": {
                if (refusal() != 0) return refusal();
                return in(a[0], 0, pad.length() - 1) ? tonight().used.get(a[0]) : OUTSIDE;
            }
            case "behind": return behind(a[0], a[1]);
            case "done": return done();
            case "state":
                if (!isThing(a[0])) return UNKNOWN;
                if (!in(a[1], 0, 1)) return OUTSIDE;
                return a[1] == 0 ? world.things.get(a[0]).left : world.things.get(a[0]).warm;
            case "eats":
                if (!isGuest(a[0])) return UNKNOWN;
                return play("" + (char) ('A' + a[0]), world.things).used.get(0);
            case "seen":
                if (!isThing(a[0])) return UNKNOWN;
                if (!in(a[1], 0, 9)) return OUTSIDE;
                world.sights.put(a[0], a[1]);
                return world.sights.size();
            case "forget": {
                int was = world.sights.size();
                world.sights.clear();
                return was;
            }
            case "rows": return rows(a[0], a[1]);
            case "cup": return cup(a[0], a[1]);
            case "look": return look(a[0], a[1]);
            case "belief": return belief(a[0], a[1], a[2]);
            case "alike": return alike(a[0]);
            case "lay": return lay(a[0]);
            case "hide": return hide();
            case "trace": return trace();
            case "lock": return lock(a[0], a[1]);
            case "year": return year(a[0], a[1], a[2]);
            case "image":
                if (!in(a[0], 0, 1)) return OUTSIDE;
                images[a[0]] = world.copy();
                return 1;
            case "restore":
                if (!in(a[0], 0, 1)) return OUTSIDE;
                if (images[a[0]] == null) return STATE;
                world = images[a[0]].copy();
                return 1;
            case "told": return told(a[0]);
            default: throw new IllegalArgumentException(name);
        }
    }

    private long things(int n) {
        if (!in(n, 1, 7)) return OUTSIDE;
        int was = world.things.size();
        world = new World(fresh(n), world.guests, new TreeMap<>());
        return was;
    }

    private long thing(int t, int what, int v) {
        if (!isThing(t)) return UNKNOWN;
        if (!in(what, 0, 3) || !in(v, 0, what == 2 ? 1 : 9)) return OUTSIDE;
        Thing old = world.things.get(t);
        if (what == 3 && v > old.laid) return STATE;
        world.things.set(t, switch (what) {
            case 0 -> new Thing(v, old.laid, old.locked, old.left, old.warm);
            case 1 -> new Thing(old.size, v, old.locked, v, 0);
            case 2 -> new Thing(old.size, old.laid, v == 1, old.left, old.warm);
            default -> new Thing(old.size, old.laid, old.locked, v, old.warm);
        });
        return what == 0 ? old.size : what == 1 ? old.laid : what == 2 ? (old.locked ? 1 : 0) : old.left;
    }

    private long guest(int[] a) {
        if (!in(a[0], 0, 3)) return UNKNOWN;
        if (!in(a[1], 0, 9) || !in(a[2], 1, 9) || !in(a[3], 0, 3) || !in(a[4], 1, 9)) return OUTSIDE;
        world.guests.put(a[0], new Guest(a[1], a[2], a[3], a[4]));
        return world.guests.size();
    }

    private long emptied() {
        int was = pad.length();
        pad = "";
        return was;
    }

    private long fault() {
        String allowed = "ABCD." + "0123456".substring(0, world.things.size());
        for (int i = 0; i < pad.length(); i++) {
            if (allowed.indexOf(pad.charAt(i)) < 0) return i;
        }
        return NONE;
    }

    /** What the guest takes of things left so, lastUsed being -1 if none was. */
    private int takes(Guest g, List<Thing> things, int[] left, int lastUsed) {
        List<Integer> open = new ArrayList<>();
        for (int t = 0; t < things.size(); t++) {
            if (!things.get(t).locked && left[t] > 0) open.add(t);
        }
        if (open.isEmpty()) return -6;
        if (g.habit == 2) {
            for (int t : open) {
                if (t > lastUsed) return t;
            }
            return open.get(0);
        }
        if (g.habit == 3) {
            for (int t : open) {
                if (left[t] >= g.hunger) return t;
            }
            return open.get(0);
        }
        if (g.habit == 1) {
            for (int much = 9; much > 0; much--) {
                for (int t : open) {
                    if (left[t] == much) return t;
                }
            }
        }
        for (int apart = 0; apart <= 9; apart++) {
            for (int t : open) {
                int size = things.get(t).size;
                if (size == g.size - apart || size == g.size + apart) return t;
            }
        }
        throw new IllegalStateException();
    }

    private Outcome play(String text, List<Thing> things) {
        Outcome o = new Outcome();
        int n = things.size();
        o.left = new int[n];
        o.warm = new int[n];
        o.first = new int[n];
        o.last = new int[n];
        Arrays.fill(o.first, -6);
        Arrays.fill(o.last, -6);
        for (int t = 0; t < n; t++) {
            o.left[t] = things.get(t).left;
            o.warm[t] = things.get(t).warm;
        }
        int lastUsed = -1;
        for (int part = 0; part < text.length(); part++) {
            char c = text.charAt(part);
            o.used.add(-6);
            if (c == '.') {
                for (int t = 0; t < n; t++) if (o.warm[t] > 0) o.warm[t]--;
            } else if (c <= '9') {
                o.left[c - '0'] = things.get(c - '0').laid;
            } else {
                Guest g = world.guests.get(c - 'A');
                int t = g == null ? -6 : takes(g, things, o.left, lastUsed);
                if (t == -6) {
                    o.bad = part;
                    o.why = g == null ? 1 : 2;
                    return o;
                }
                int rest = o.left[t] > g.hunger ? o.left[t] - g.hunger : 0;
                o.eaten += o.left[t] - rest;
                o.left[t] = rest;
                o.came++;
                o.warm[t] = 9;
                o.used.set(part, t);
                if (o.first[t] == -6) o.first[t] = c - 'A';
                o.last[t] = c - 'A';
                lastUsed = t;
            }
        }
        return o;
    }

    private Outcome tonight() {
        return play(pad, world.things);
    }

    private long refusal() {
        if (fault() != NONE) return NO;
        return tonight().bad != -6 ? STATE : 0;
    }

    private long judge(int what) {
        if (!in(what, 0, 3)) return OUTSIDE;
        if (fault() != NONE) return NO;
        Outcome o = tonight();
        if (what == 0) return o.bad;
        if (what == 1) return o.why;
        if (o.bad != -6) return STATE;
        return what == 2 ? o.came : o.eaten;
    }

    private long behind(int t, int what) {
        if (!isThing(t)) return UNKNOWN;
        if (!in(what, 0, 3)) return OUTSIDE;
        if (refusal() != 0) return refusal();
        Outcome o = tonight();
        return (what == 0 ? o.left : what == 1 ? o.warm : what == 2 ? o.first : o.last)[t];
    }

    private long done() {
        if (refusal() != 0) return refusal();
        Outcome o = tonight();
        for (int t = 0; t < world.things.size(); t++) {
            Thing old = world.things.get(t);
            world.things.set(t, new Thing(old.size, old.laid, old.locked, o.left[t], o.warm[t]));
        }
        return emptied();
    }

    /** All texts of just m guests that there are, in their order. */
    private List<String> texts(int m) {
        List<String> texts = new ArrayList<>(List.of(""));
        for (int i = 0; i < m; i++) {
            List<String> longer = new ArrayList<>();
            for (String text : texts) {
                for (int g : world.guests.keySet()) longer.add(text + (char) ('A' + g));
            }
            texts = longer;
        }
        return texts;
    }

    private boolean asSeen(int[] left) {
        for (int t : world.sights.keySet()) {
            if (left[t] != world.sights.get(t)) return false;
        }
        return true;
    }

    /** The rows that fit, the shortest first, then by guests. */
    private List<String> fitting(int m) {
        List<String> rows = new ArrayList<>();
        for (int k = 0; k <= m; k++) {
            for (String text : texts(k)) {
                Outcome o = play(text, world.things);
                if (o.bad == -6 && asSeen(o.left)) rows.add(text);
            }
        }
        return rows;
    }

    private long rows(int m, int what) {
        if (!in(m, 0, 6) || !in(what, 0, 9)) return OUTSIDE;
        List<String> rows = fitting(m);
        if (what == 0) return rows.size();
        if (what == 1) return rows.isEmpty() ? NONE : rows.get(0).length();
        if (what >= 4) return rows.isEmpty() || rows.get(0).length() <= what - 4 ? NONE : rows.get(0).charAt(what - 4) - 'A';
        int bits = 0;
        for (int g = 0; g < 4; g++) {
            String name = "" + (char) ('A' + g);
            boolean all = !rows.isEmpty() && rows.stream().allMatch(r -> r.contains(name));
            boolean some = rows.stream().anyMatch(r -> r.contains(name));
            if (what == 2 ? all : some) bits += 1 << g;
        }
        return bits;
    }

    private long cup(int t, int m) {
        if (!isThing(t)) return UNKNOWN;
        if (!in(m, 0, 6)) return OUTSIDE;
        int bits = 0;
        for (String row : fitting(m)) {
            int who = play(row, world.things).first[t];
            bits |= who == -6 ? 16 : 1 << who;
        }
        return bits;
    }

    private long look(int m, int what) {
        if (!in(m, 0, 6) || !in(what, 0, 1)) return OUTSIDE;
        List<String> rows = fitting(m);
        if (rows.isEmpty()) return NONE;
        long best = NONE, fewest = NONE;
        for (int t = 0; t < world.things.size(); t++) {
            if (world.sights.containsKey(t)) continue;
            int[] counts = new int[10];
            for (String row : rows) counts[play(row, world.things).left[t]]++;
            int most = Arrays.stream(counts).max().getAsInt();
            if (best == NONE || most < fewest) {
                best = t;
                fewest = most;
            }
        }
        return what == 0 ? best : fewest;
    }

    private long belief(int m, int g, int part) {
        if (g != -1 && !isGuest(g)) return GONE + UNKNOWN;
        if (!in(m, 0, 6) || !in(part, 0, 1)) return GONE + OUTSIDE;
        if (world.guests.isEmpty()) return GONE + STATE;
        BigInteger upper = BigInteger.ZERO, lower = BigInteger.ZERO;
        for (String text : texts(m)) {
            BigInteger weight = BigInteger.ONE;
            for (char c : text.toCharArray()) weight = weight.multiply(BigInteger.valueOf(world.guests.get(c - 'A').often));
            lower = lower.add(weight);
            if (g != -1 && (m == 0 || text.charAt(0) - 'A' != g)) continue;
            if (asSeen(played(text))) upper = upper.add(weight);
        }
        return (part == 0 ? upper : lower).divide(upper.gcd(lower)).longValueExact();
    }

    /** What a text of guests leaves, those who find nothing being passed over. */
    int[] played(String text) {
        String left = text;
        for (;;) {
            Outcome o = play(left, world.things);
            if (o.bad == -6) return o.left;
            left = left.substring(0, o.bad) + left.substring(o.bad + 1);
        }
    }

    private List<Integer> pairs(List<Thing> things) {
        List<Integer> pairs = new ArrayList<>();
        for (int a : world.guests.keySet()) {
            for (int b : world.guests.tailMap(a, false).keySet()) {
                int[] one = play("" + (char) ('A' + a), things).left;
                int[] two = play("" + (char) ('A' + b), things).left;
                if (Arrays.equals(one, two)) pairs.add(10 * a + b);
            }
        }
        return pairs;
    }

    private long alike(int i) {
        List<Integer> pairs = pairs(world.things);
        if (i == -1) return pairs.size();
        return in(i, 0, pairs.size() - 1) ? pairs.get(i) : NONE;
    }

    private long lay(int what) {
        if (!in(what, 0, 1)) return OUTSIDE;
        for (int k = 0; k <= 2; k++) {
            for (int bits = 0; bits < 1 << world.things.size(); bits++) {
                if (Integer.bitCount(bits) == k && canTell(bits, 0, world.things)) return what == 0 ? k : bits;
            }
        }
        return NONE;
    }

    private boolean canTell(int bits, int from, List<Thing> things) {
        if (from == things.size()) return pairs(things).isEmpty();
        if ((bits >> from & 1) == 0) return canTell(bits, from + 1, things);
        Thing old = things.get(from);
        if (old.locked) return false;
        for (int v = 0; v <= 9; v++) {
            List<Thing> anew = new ArrayList<>(things);
            anew.set(from, new Thing(old.size, v, false, v, 0));
            if (canTell(bits, from + 1, anew)) return true;
        }
        return false;
    }

    private long hide() {
        if (refusal() != 0) return refusal();
        int bits = 0;
        for (int t = 0; t < world.things.size(); t++) {
            if (tonight().left[t] != world.things.get(t).left) bits += 1 << t;
        }
        return bits;
    }

    private long trace() {
        if (refusal() != 0) return refusal();
        int[] wanted = tonight().left;
        for (int k = 0; k <= 6; k++) {
            for (String text : texts(k)) {
                Outcome o = play(text, world.things);
                if (o.bad == -6 && Arrays.equals(o.left, wanted)) return k;
            }
        }
        return NONE;
    }

    private long lock(int t, int m) {
        if (t != -1 && !isThing(t)) return UNKNOWN;
        if (!in(m, 0, 5)) return OUTSIDE;
        List<Thing> things = new ArrayList<>(world.things);
        if (t != -1) {
            Thing old = things.get(t);
            things.set(t, new Thing(old.size, old.laid, true, old.left, old.warm));
        }
        Set<String> leavings = new HashSet<>();
        for (String text : texts(m)) {
            Outcome o = play(text, things);
            if (o.bad == -6) leavings.add(Arrays.toString(o.left));
        }
        return leavings.size();
    }

    private long year(int seed, int m, int what) {
        if (!in(seed, 0, 9999) || !in(m, 1, 60) || !in(what, 0, 2)) return OUTSIDE;
        BigInteger x = BigInteger.valueOf(seed);
        int eaten = 0, often = 0, untouched = 0;
        int[] before = play("", world.things).left;
        for (int e = 0; e < m; e++) {
            String text = "";
            for (int i = 0; i < 3; i++) {
                x = x.multiply(BigInteger.valueOf(75)).add(BigInteger.valueOf(74)).mod(BigInteger.valueOf(65537));
                String longer = text + (char) ('A' + x.intValue() % 4);
                if (play(longer, world.things).bad == -6) text = longer;
            }
            Outcome o = play(text, world.things);
            eaten += o.eaten;
            for (int t : o.used) if (t == 0) often++;
            if (Arrays.equals(before, o.left)) untouched++;
        }
        return what == 0 ? eaten : what == 1 ? often : untouched;
    }

    private static int bits(Set<Integer> numbers) {
        int bits = 0;
        for (int number : new TreeSet<>(numbers)) bits += 1 << number;
        return bits;
    }

    private long told(int what) {
        if (what == 0) return pad.length();
        if (what == 1) return world.things.size();
        if (what == 2) return bits(world.guests.keySet());
        if (what == 3) return bits(world.sights.keySet());
        for (int t = 0; t < world.things.size(); t++) {
            Thing thing = world.things.get(t);
            int base = 10 * (1 + t);
            if (what == base) return thing.size;
            if (what == base + 1) return thing.laid;
            if (what == base + 2) return thing.locked ? 1 : 0;
            if (what == base + 3) return thing.left;
            if (what == base + 4) return thing.warm;
            if (what == base + 5) return world.sights.getOrDefault(t, -6);
        }
        for (int g : world.guests.keySet()) {
            Guest guest = world.guests.get(g);
            int base = 100 * (1 + g);
            if (what == base) return guest.size;
            if (what == base + 1) return guest.hunger;
            if (what == base + 2) return guest.habit;
            if (what == base + 3) return guest.often;
        }
        return OUTSIDE;
    }
}
