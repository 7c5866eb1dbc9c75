import java.util.Random;

/** The class and its plain twin answer the same calls, drawn by fixed seeds, and must answer alike. */
public final class TwinTest {
    private static final String[] NAMES = {
        "things", "thing", "guest", "leave", "say", "wipe", "fault", "judge", "used", "behind", "done", "state",
        "eats", "seen", "forget", "rows", "cup", "look", "belief", "alike", "lay", "hide", "trace", "lock", "year",
        "image", "restore", "told"};
    private static final int[] OFTEN = {
        1, 8, 6, 1, 24, 2, 2, 5, 3, 5, 2, 3, 5, 5, 1, 6, 4, 4, 6, 4, 2, 4, 3, 4, 4, 1, 1, 8};

    private static SevenPlates x;
    private static PlainTwin twin;
    private static Random draw;
    private static int calls;
    private static final Check check = new Check();

    public static void main(String[] args) {
        for (int run = 0; run < 600; run++) {
            draw = new Random(run);
            x = new SevenPlates();
            twin = new PlainTwin();
            calls = 0;
            int longest = run % 20 == 0 ? 6 : 4;
            if (run % 5 != 0) furnish(run);
            while (calls < 360) {
                if (draw.nextInt(25) == 0) watch(run, longest);
                String name = drawName();
                both(run, name, drawArguments(name, longest));
            }
            for (int what = -1; what <= 80; what++) both(run, "told", what);
            for (int g = 1; g <= 4; g++) {
                for (int what = 0; what <= 4; what++) both(run, "told", 100 * g + what);
            }
        }
        check.end();
    }

    /** A small table with some guests, so that rows and twos are met early. */
    private static void furnish(int run) {
        both(run, "things", 1 + draw.nextInt(7));
        for (int g = 0; g < 4; g++) {
            if (draw.nextInt(4) > 0) both(run, "guest", drawArguments("guest", 0));
        }
    }

    /** Sights that a drawn row really leaves, and what is asked of them. */
    private static void watch(int run, int longest) {
        String text = "";
        for (int i = draw.nextInt(longest + 1); i > 0; i--) text += (char) aGuestSign();
        int[] left = twin.played(text);
        both(run, "forget");
        for (int t = 0; t < left.length; t++) {
            if (draw.nextInt(3) > 0) both(run, "seen", t, left[t]);
        }
        both(run, "rows", longest, draw.nextInt(10));
        both(run, "rows", longest, draw.nextInt(10));
        both(run, "cup", draw.nextInt(left.length), longest);
        both(run, "look", longest, draw.nextInt(2));
        both(run, "belief", Math.min(longest, text.length()), draw.nextInt(5) - 1, draw.nextInt(2));
    }

    /** No object is asked more often than the document allows. */
    private static void both(int run, String name, int... a) {
        if (calls >= 512) return;
        calls++;
        long want = twin.call(name, a);
        check.due("run " + run + ": " + Calls.told(name, a), Calls.on(x, name, a), want);
    }

    private static int twinTold(int what) {
        return (int) twin.call("told", new int[] {what});
    }

    private static String drawName() {
        int all = 0;
        for (int often : OFTEN) all += often;
        int at = draw.nextInt(all);
        int i = 0;
        while (at >= OFTEN[i]) at -= OFTEN[i++];
        return NAMES[i];
    }

    /** A number from low to high; now and then one just beyond, or a very great one. */
    private static int number(int low, int high) {
        int kind = draw.nextInt(60);
        if (kind == 0) return low - 1;
        if (kind == 1) return high + 1;
        if (kind == 2) return draw.nextBoolean() ? Integer.MAX_VALUE : Integer.MIN_VALUE;
        return low + draw.nextInt(high - low + 1);
    }

    private static int aThing() {
        int n = twinTold(1);
        return draw.nextInt(25) == 0 ? number(-1, 7) : draw.nextInt(n);
    }

    private static int aGuest() {
        return number(0, 3);
    }

    private static int length(int most, int longest) {
        return draw.nextInt(12) == 0 ? number(0, most) % 6 : number(0, Math.min(most, longest));
    }

    private static int aSign() {
        int kind = draw.nextInt(40);
        if (kind == 0) return number(33, 126);
        if (kind < 8) return '.';
        if (kind < 13) return '0' + draw.nextInt(Math.max(1, twinTold(1)));
        if (kind == 13) return '0' + draw.nextInt(10);
        return aGuestSign();
    }

    /** Mostly one that there is. */
    private static int aGuestSign() {
        for (int i = 0; i < 20; i++) {
            int g = draw.nextInt(4);
            if ((twinTold(2) >> g & 1) == 1) return 'A' + g;
        }
        return 'A' + draw.nextInt(4);
    }

    /** A sight that some guests of now may well have left. */
    private static int[] aSight() {
        int thing = aThing();
        int left = Math.max(0, (int) twin.call("state", new int[] {thing, 0}));
        for (int i = draw.nextInt(3); i > 0; i--) left -= Math.max(1, twinTold(101 + 100 * draw.nextInt(4)));
        if (draw.nextInt(5) == 0) left = number(0, 9);
        return new int[] {thing, draw.nextInt(30) == 0 ? left : Math.max(0, left)};
    }

    private static int[] drawArguments(String name, int longest) {
        switch (name) {
            case "things": return new int[] {number(1, 7)};
            case "thing": {
                int what = number(0, 3);
                return new int[] {aThing(), what, what == 2 ? number(0, 1) : number(0, 9)};
            }
            case "guest": return new int[] {aGuest(), number(0, 9), number(1, 9), number(0, 3), number(1, 9)};
            case "leave", "eats": return new int[] {aGuest()};
            case "say": return new int[] {aSign()};
            case "judge": return new int[] {number(0, 3)};
            case "used": return new int[] {number(0, Math.max(0, twinTold(0) - 1))};
            case "behind": return new int[] {aThing(), number(0, 3)};
            case "state": return new int[] {aThing(), number(0, 1)};
            case "seen": return aSight();
            case "rows": return new int[] {length(6, longest), number(0, 9)};
            case "cup": return new int[] {aThing(), length(6, longest)};
            case "look": return new int[] {length(6, longest), number(0, 1)};
            case "belief": return new int[] {length(6, longest), number(-1, 3), number(0, 1)};
            case "alike": return new int[] {number(-1, 3)};
            case "lay": return new int[] {number(0, 1)};
            case "lock": return new int[] {draw.nextInt(3) == 0 ? -1 : aThing(), length(5, longest)};
            case "year": return new int[] {number(0, 9999), number(1, 60), number(0, 2)};
            case "image", "restore": return new int[] {number(0, 1)};
            case "told": return new int[] {draw.nextBoolean() ? number(0, 80) : number(100, 410)};
            default: return new int[0];
        }
    }
}
