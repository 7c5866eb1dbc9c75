import java.util.ArrayList;
import java.util.Arrays;
import java.util.List;

/**
 * In some scenes every call is made with every number at, below and above its edges, in all their combinations (of the
 * five numbers of guest in some, as all are too many). The class must answer as its plain twin does; who is refused, or
 * only asks, must leave all as it is, and who changes something must leave just what the twin tells then.
 */
public final class EdgesTest {
    private static final int MIN = Integer.MIN_VALUE, MAX = Integer.MAX_VALUE;
    private static final int[] THING = {MIN, -2, -1, 0, 1, 2, 3, 6, 7, 8, 32, MAX};
    private static final int[] GUEST = {MIN, -2, -1, 0, 1, 2, 3, 4, 5, 32, MAX};
    private static final int[] DIGIT = {MIN, -1, 0, 1, 2, 8, 9, 10, MAX};
    private static final int[] LENGTH = {MIN, -1, 0, 1, 5, 6, 7, MAX};
    private static final int[] PART = {MIN, -1, 0, 1, 2, MAX};
    private static final int[] WHAT = {MIN, -1, 0, 1, 2, 3, 4, 5, MAX};
    private static final int MOST_TOGETHER = 100;

    /** Each is what makes it, as calls; "pad" stands for its signs said one by one. */
    private static final String[][] SCENES = {
        {},
        {"things 1", "guest 0 0 9 0 1", "pad AA", "thing 0 1 7", "seen 0 0"},
        {"things 3", "guest 0 0 2 0 1", "guest 1 9 4 1 3", "pad AB0.", "done", "pad BA1", "seen 1 5", "image 0"},
        {"things 7", "guest 0 3 3 0 2", "guest 1 5 2 1 1", "guest 2 0 5 2 4", "guest 3 9 4 3 3", "image 1", "pad ABCD.3",
            "done", "thing 4 2 1", "thing 5 1 4", "thing 5 3 1", "pad DDCA", "seen 2 9", "image 0"},
        {"things 4", "guest 2 0 1 2 9", "pad C.........C7", "seen 0 8", "seen 1 9", "seen 2 9", "seen 3 9", "image 1"},
        {"things 2", "guest 3 1 1 3 5", "pad DDDDDDDDDDDDDDDDDD", "done", "pad .D", "seen 1 0"},
        {"things 6", "guest 0 0 1 0 1", "guest 1 0 1 0 1", "thing 0 2 1", "thing 1 1 0",
            "pad ........................................", "image 0", "seen 3 9"},
        {"things 2", "guest 0 0 1 0 1", "guest 1 0 2 0 1", "guest 2 1 1 0 9", "guest 3 1 2 0 9", "thing 0 1 1",
            "thing 1 1 1", "pad CA", "seen 0 0", "seen 1 1", "image 0", "image 1"}};

    private static final Check c = new Check();

    private static String[] scene;
    private static String where;
    private static List<int[]> together;
    private static String togetherName;
    private static Picture before;

    public static void main(String[] args) {
        for (int i = 0; i < SCENES.length; i++) {
            scene = SCENES[i];
            where = "scene " + i + ": ";
            before = Picture.of(made());
            partOne();
            partTwo();
            partThree();
            partFour();
        }
        c.end();
    }

    private static void partOne() {
        all("things", new int[] {MIN, -1, 0, 1, 2, 6, 7, 8, 9, MAX});
        all("thing", THING, new int[] {MIN, -1, 0, 1, 2, 3, 4, MAX}, DIGIT);
        int[] few = {MIN, 0, 3, 4};
        all("guest", GUEST, new int[] {4}, new int[] {4}, new int[] {2}, new int[] {4});
        all("guest", few, DIGIT, DIGIT, new int[] {2}, new int[] {4});
        all("guest", few, new int[] {-1, 4, 10}, new int[] {0, 4, 10}, new int[] {MIN, -1, 0, 1, 2, 3, 4, MAX}, DIGIT);
        all("leave", GUEST);
        all("say", new int[] {MIN, -1, 0, 10, 32, 33, 46, 47, 48, 54, 55, 57, 58, 64, 65, 68, 69, 97, 126, 127, 128, 321, MAX});
        all("wipe");
        all("fault");
    }

    private static void partTwo() {
        all("judge", WHAT);
        int[] parts = new int[48];
        for (int i = 0; i < 46; i++) parts[i] = i - 3;
        parts[46] = MIN;
        parts[47] = MAX;
        all("used", parts);
        all("behind", THING, WHAT);
        all("done");
        all("state", THING, WHAT);
        all("eats", GUEST);
    }

    private static void partThree() {
        all("seen", THING, DIGIT);
        all("forget");
        all("rows", LENGTH, new int[] {MIN, -1, 0, 1, 2, 3, 4, 5, 6, 7, 8, 9, 10, 11, MAX});
        all("cup", THING, LENGTH);
        all("look", LENGTH, PART);
        all("belief", LENGTH, GUEST, PART);
    }

    private static void partFour() {
        all("alike", new int[] {MIN, -3, -2, -1, 0, 1, 2, 3, 4, 5, 6, 7, MAX});
        all("lay", PART);
        all("hide");
        all("trace");
        all("lock", THING, LENGTH);
        all("year", new int[] {MIN, -1, 0, 1, 872, 873, 9998, 9999, 10000, MAX}, new int[] {MIN, -1, 0, 1, 2, 59, 60, 61, MAX},
            new int[] {MIN, -1, 0, 1, 2, 3, MAX});
        all("image", new int[] {MIN, -1, 0, 1, 2, MAX});
        all("restore", new int[] {MIN, -1, 0, 1, 2, MAX});
        int[] what = new int[620];
        for (int i = 0; i < 616; i++) what[i] = i - 110;
        what[616] = MIN;
        what[617] = MAX;
        what[618] = 1000;
        what[619] = -1000;
        all("told", what);
    }

    /** The call with all combinations of these numbers. */
    private static void all(String name, int[]... numbers) {
        together = new ArrayList<>();
        togetherName = name;
        combine(numbers, new int[numbers.length], 0);
        lookBehind();
    }

    private static void combine(int[][] numbers, int[] a, int at) {
        if (at == a.length) {
            one(a.clone());
            return;
        }
        for (int number : numbers[at]) {
            a[at] = number;
            combine(numbers, a, at + 1);
        }
    }

    private static void one(int[] a) {
        PlainTwin twin = twin();
        long due = twin.call(togetherName, a);
        if (Calls.isRefusal(due) || Calls.onlyAsks(togetherName)) {
            together.add(a);
            if (together.size() == MOST_TOGETHER) lookBehind();
            c.due(where + Calls.told(togetherName, a), Calls.on(made(), togetherName, a), due);
            return;
        }
        SevenPlates x = made();
        c.due(where + Calls.told(togetherName, a), Calls.on(x, togetherName, a), due);
        same(where + "behind " + Calls.told(togetherName, a), x, twin);
    }

    /** Many calls that change nothing go together on one object, so that its picture is taken but once. */
    private static void lookBehind() {
        if (together.isEmpty()) return;
        SevenPlates x = made();
        for (int[] a : together) Calls.on(x, togetherName, a);
        String otherwise = Picture.of(x).otherThan(before);
        c.holds(where + togetherName + " from " + Arrays.toString(together.get(0)) + " on changes nothing; " + otherwise,
            otherwise.isEmpty());
        together.clear();
    }

    /** All that is told, and what the evening comes to, now and by both images. */
    private static void same(String what, SevenPlates x, PlainTwin twin) {
        told(what, x, twin);
        for (int t = 0; t < 7; t++) {
            for (int i = 0; i < 4; i++) both(what, x, twin, "behind", t, i);
        }
        both(what, x, twin, "fault");
        for (int k = 0; k < 2; k++) {
            both(what, x, twin, "restore", k);
            told(what, x, twin);
        }
    }

    private static void told(String what, SevenPlates x, PlainTwin twin) {
        for (int i = 0; i < 76; i++) both(what, x, twin, "told", i);
        for (int i = 0; i < 16; i++) both(what, x, twin, "told", 100 * (1 + i / 4) + i % 4);
    }

    private static void both(String what, SevenPlates x, PlainTwin twin, String name, int... a) {
        c.due(what + ": " + Calls.told(name, a), Calls.on(x, name, a), twin.call(name, a));
    }

    private static SevenPlates made() {
        SevenPlates x = new SevenPlates();
        for (String text : scene) {
            if (text.startsWith("pad ")) {
                Check.tell(x, text.substring(4));
            } else {
                Calls.on(x, text.split(" ")[0], numbers(text));
            }
        }
        return x;
    }

    private static PlainTwin twin() {
        PlainTwin twin = new PlainTwin();
        for (String text : scene) {
            if (text.startsWith("pad ")) {
                twin.call("wipe", new int[0]);
                for (char sign : text.substring(4).toCharArray()) twin.call("say", new int[] {sign});
            } else {
                twin.call(text.split(" ")[0], numbers(text));
            }
        }
        return twin;
    }

    private static int[] numbers(String text) {
        String[] words = text.split(" ");
        int[] a = new int[words.length - 1];
        for (int i = 0; i < a.length; i++) a[i] = Integer.parseInt(words[i + 1]);
        return a;
    }
}
