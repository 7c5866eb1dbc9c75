import java.math.BigInteger;

/** What the document says ahead of its parts: which refusal is first, that it changes nothing, fractions, sets, calls. */
public final class TermsTest {
    private static final int MIN = Integer.MIN_VALUE, MAX = Integer.MAX_VALUE;
    private static final Check c = new Check();

    public static void main(String[] args) {
        refusalsOfThings();
        refusalsOfEvenings();
        refusalsOfSights();
        refusalsOfTables();
        refusedOneBehindAnother();
        fractions();
        sets();
        objectsShareNothing();
        mostCalls();
        Tale.end();
        c.end();
    }

    /** "the first of these that fits": all that a call names fit at once, then one after the other is mended. */
    private static void refusalsOfThings() {
        Tale.tell("terms, part 1", "things 3 = 7", "thing 2 1 4 = 9",
            "things 0 = OUTSIDE", "thing 3 4 10 = UNKNOWN", "thing 3 3 5 = UNKNOWN", "thing 2 4 10 = OUTSIDE",
            "thing 2 3 10 = OUTSIDE", "thing 2 3 5 = STATE", "thing 2 3 3 = 4",
            "guest 4 10 0 4 0 = UNKNOWN", "guest 3 10 0 4 0 = OUTSIDE", "guest 3 9 9 3 9 = 1",
            "leave 2 = UNKNOWN", "leave 4 = UNKNOWN", "leave 3 = 0",
            "pad " + ".".repeat(40), "say 32 = OUTSIDE", "say 33 = FULL", "wipe = 40", "say 33 = 1");
    }

    /** "NO -5 (as told), STATE -3 (as told)": NO is ahead of STATE; used names OUTSIDE behind both. */
    private static void refusalsOfEvenings() {
        Tale.tell("terms, part 2", "things 3 = 7", "guest 0 0 1 0 1 = 1", "pad ABE",
            "judge 4 = OUTSIDE", "judge 3 = NO", "judge 2 = NO", "judge 1 = NO", "judge 0 = NO",
            "behind 3 4 = UNKNOWN", "behind 2 4 = OUTSIDE", "behind 2 3 = NO", "used 3 = NO", "done = NO",
            "state 3 2 = UNKNOWN", "state 2 2 = OUTSIDE", "eats 1 = UNKNOWN",
            "pad AB", "judge 4 = OUTSIDE", "judge 3 = STATE", "judge 2 = STATE", "judge 1 = 1", "judge 0 = 1",
            "behind 3 4 = UNKNOWN", "behind 2 4 = OUTSIDE", "behind 2 3 = STATE", "used 2 = STATE", "done = STATE",
            "pad A", "judge 2 = 1", "behind 2 3 = NONE", "used 1 = OUTSIDE", "used 0 = 0", "done = 1");
    }

    private static void refusalsOfSights() {
        Tale.tell("terms, part 3", "things 3 = 7", "seen 3 10 = UNKNOWN", "seen 2 10 = OUTSIDE", "seen 2 9 = 1",
            "rows 7 10 = OUTSIDE", "rows 6 10 = OUTSIDE", "rows 7 9 = OUTSIDE", "rows 6 9 = NONE",
            "cup 3 7 = UNKNOWN", "cup 2 7 = OUTSIDE", "cup 2 6 = 16", "look 7 2 = OUTSIDE", "look 6 2 = OUTSIDE", "look 6 1 = 1",
            "belief 7 0 2 = GONE-UNKNOWN", "belief 7 -1 2 = GONE-OUTSIDE", "belief 7 -1 1 = GONE-OUTSIDE",
            "belief 6 -1 2 = GONE-OUTSIDE", "belief 6 -1 1 = GONE-STATE", "guest 0 0 1 0 1 = 1", "belief 6 0 1 = 1");
    }

    private static void refusalsOfTables() {
        Tale.tell("terms, part 4", "things 3 = 7", "alike -2 = NONE", "lay 2 = OUTSIDE", "lay 1 = 0",
            "pad A3", "hide = NO", "trace = NO", "pad A2", "hide = STATE", "trace = STATE", "pad 2", "hide = 0", "trace = 0",
            "lock 3 6 = UNKNOWN", "lock 2 6 = OUTSIDE", "lock 2 5 = 0", "year 10000 61 3 = OUTSIDE", "year 9999 60 2 = 60",
            "image 2 = OUTSIDE", "restore 2 = OUTSIDE", "restore 1 = STATE", "image 1 = 1", "restore 1 = 1",
            "told 40 = OUTSIDE", "told 100 = OUTSIDE", "told 30 = 2");
    }

    /** "They change nothing": many of them one behind another, too. */
    private static void refusedOneBehindAnother() {
        SevenPlates asked = table(), notAsked = table();
        String[] calls = {"things", "thing", "guest", "leave", "say", "used", "judge", "behind", "state", "eats", "seen", "rows",
            "cup", "look", "belief", "lay", "lock", "year", "image", "restore"};
        int[] beyond = {MIN, -7, 128, MAX};
        for (String name : calls) {
            for (int number : beyond) {
                long answer = Calls.on(asked, name, number, number, number, number, number);
                c.holds(name + " of " + number + " is refused", Calls.isRefusal(answer));
            }
        }
        c.holds("done is refused", asked.done() == SevenPlates.NO);
        String otherwise = Picture.of(asked).otherThan(Picture.of(notAsked));
        c.holds("they change nothing; " + otherwise, otherwise.isEmpty());
    }

    private static SevenPlates table() {
        SevenPlates x = new SevenPlates();
        x.things(4);
        x.guest(0, 1, 2, 0, 3);
        x.guest(2, 3, 4, 2, 6);
        x.thing(1, 2, 1);
        Check.tell(x, "AC.");
        x.image(1);
        x.done();
        x.seen(3, 9);
        Check.tell(x, "CA7");
        return x;
    }

    /** "Fractions are told in lowest terms by part": by all that come, and by each who is first these make the whole. */
    private static void fractions() {
        int[][] often = {{1, 1, 1, 1}, {2, 4, 6, 8}, {9, 9, 9, 9}, {9, 3, 6, 0}, {5, 0, 0, 5}, {7, 5, 3, 2}, {0, 0, 8, 0}};
        for (int[] each : often) {
            SevenPlates x = new SevenPlates();
            x.things(3);
            for (int g = 0; g < 4; g++) if (each[g] > 0) x.guest(g, g, 1 + g, g, each[g]);
            for (int m = 0; m <= 6; m++) {
                for (int left = 5; left <= 9; left++) {
                    x.seen(0, left);
                    String what = "belief of " + m + ", " + left + " left, often " + each[0] + each[1] + each[2] + each[3];
                    BigInteger[] whole = fraction(what, x, m, -1);
                    BigInteger[] sum = {BigInteger.ZERO, BigInteger.ONE};
                    for (int g = 0; g < 4; g++) if (each[g] > 0) sum = plus(sum, fraction(what, x, m, g));
                    boolean same = whole[0].multiply(sum[1]).equals(sum[0].multiply(whole[1]));
                    c.holds(what + " is what the first ones make", same || m == 0 && sum[0].signum() == 0);
                }
            }
        }
    }

    private static BigInteger[] fraction(String what, SevenPlates x, int m, int guest) {
        BigInteger upper = BigInteger.valueOf(x.belief(m, guest, 0));
        BigInteger lower = BigInteger.valueOf(x.belief(m, guest, 1));
        c.holds(what + ", guest " + guest + ": 0 to 1", upper.signum() >= 0 && upper.compareTo(lower) <= 0);
        c.holds(what + ", guest " + guest + ": lowest terms", upper.gcd(lower).equals(BigInteger.ONE));
        return new BigInteger[] {upper, lower};
    }

    private static BigInteger[] plus(BigInteger[] a, BigInteger[] b) {
        return new BigInteger[] {a[0].multiply(b[1]).add(b[0].multiply(a[1])), a[1].multiply(b[1])};
    }

    /** "Sets are bits": of each set that is told, bit k is THING or GUEST k. */
    private static void sets() {
        for (int g = 0; g < 4; g++) {
            Tale.tell("terms, the set of guest " + g, "guest " + g + " 0 1 0 1 = 1", "told 2 = " + (1 << g), "seen 0 8 = 1",
                "rows 1 2 = " + (1 << g), "rows 1 3 = " + (1 << g), "cup 0 1 = " + (1 << g));
        }
        for (int t = 0; t < 7; t++) {
            Tale.tell("terms, the set of thing " + t, "seen " + t + " 0 = 1", "told 3 = " + (1 << t), "thing " + t + " 3 1 = 9",
                "pad " + t, "hide = " + (1 << t), "guest 0 " + t + " 1 0 1 = 1", "guest 1 " + t + " 2 0 1 = 2", "lay 1 = " + (1 << t));
        }
    }

    /** No call on one object changes another, whichever was made first. */
    private static void objectsShareNothing() {
        SevenPlates x = new SevenPlates(), y = table(), alone = table();
        x.things(2);
        for (int g = 0; g < 4; g++) x.guest(g, 1, 9, g, 1);
        Check.tell(x, "ABE");
        x.rows(6, 0);
        x.trace();
        x.thing(0, 1, 1);
        x.seen(0, 0);
        x.image(0);
        x.image(1);
        String otherwise = Picture.of(y).otherThan(Picture.of(alone));
        c.holds("objects share nothing; " + otherwise, otherwise.isEmpty());
        otherwise = Picture.of(new SevenPlates()).otherThan(Picture.of(new SevenPlates()));
        c.holds("new ones are alike; " + otherwise, otherwise.isEmpty());
        c.due("a new one has seven", new SevenPlates().told(1), 7);
        c.due("the first has two", x.told(1), 2);
    }

    /** The dearest calls may be all 512; what later ones answer is free, but none throws. */
    private static void mostCalls() {
        SevenPlates x = new SevenPlates();
        for (int g = 0; g < 4; g++) x.guest(g, g, 1 + g % 2, 2, 9);
        for (int i = 4; i < 511; i++) c.due("rows, call " + i, x.rows(6, 0), 5461);
        c.due("the 512th", x.rows(6, 3), 15);
        for (int i = 0; i < 600; i++) {
            x.rows(6, i % 12);
            x.say(i);
            x.used(i);
            x.told(i);
            x.things(i % 9);
        }
    }
}
