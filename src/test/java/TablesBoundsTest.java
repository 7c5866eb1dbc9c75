import java.util.ArrayList;
import java.util.List;

/**
 * Part 4 of the document and promises 21 to 29, sentence by sentence, at their edges. Tale looks behind each refused
 * call and each question, that nothing is changed.
 */
public final class TablesBoundsTest {
    private static final String FORTY = ".".repeat(40);
    private static final Check c = new Check();

    public static void main(String[] args) {
        alikeHowMany();
        alikePlaces();
        alikeByWhatIsLeft();
        alikeWhoFindsNothing();
        layNone();
        layOne();
        layTwoAtMost();
        layLeastAsBits();
        layAnyNumber();
        layNotLocked();
        layRefusals();
        hideBits();
        hideRefusals();
        traceZeroToSix();
        traceNone();
        traceRefusals();
        lockOneMore();
        lockLengths();
        lockEachCanUse();
        lockRefusals();
        yearDraws();
        yearSeeds();
        yearLengths();
        yearEachFromNow();
        yearUntouched();
        yearRefusals();
        imageNumbers();
        imageKeepsAllButThePad();
        imageKeepsTheLast();
        restoreWhatWasKept();
        restoreBringsBackTheFewer();
        toldNumbers();
        toldOfThings();
        toldOfGuests();
        calls512();
        Tale.end();
        c.end();
    }

    /** "twos of GUESTS ..: how many (i = -1)": 0 to 6. */
    private static void alikeHowMany() {
        Tale.tell("21 how many", "alike -1 = 0", "guest 0 0 5 0 1 = 1", "alike -1 = 0", "guest 1 0 5 1 1 = 2",
            "alike -1 = 1", "guest 2 0 5 2 1 = 3", "alike -1 = 3", "guest 3 0 5 3 1 = 4", "alike -1 = 6",
            "guest 3 0 4 3 1 = 4", "alike -1 = 3", "guest 2 0 4 2 1 = 4", "alike -1 = 2", "leave 0 = 3", "alike -1 = 1");
    }

    /** "the i-th (10 times the lesser and the greater; rising)"; "NONE (i below -1, too)" */
    private static void alikePlaces() {
        Tale.tell("21 none", "alike 0 = NONE", "alike -2 = NONE", "alike 1 = NONE", "alike MIN = NONE", "alike MAX = NONE");
        Tale.tell("21 one", "guest 0 0 5 0 1 = 1", "guest 3 0 5 1 1 = 2", "alike -1 = 1", "alike 0 = 3", "alike 1 = NONE",
            "alike -2 = NONE");
        Tale.tell("21 all six", "guest 0 0 5 0 1 = 1", "guest 1 0 5 1 1 = 2", "guest 2 0 5 2 1 = 3", "guest 3 0 5 3 1 = 4",
            "alike 0 = 1", "alike 1 = 2", "alike 2 = 3", "alike 3 = 12", "alike 4 = 13", "alike 5 = 23", "alike 6 = NONE",
            "alike 7 = NONE", "alike -2 = NONE", "alike -3 = NONE", "alike MIN = NONE", "alike MAX = NONE", "alike 256 = NONE");
        Tale.tell("21 two twos", "guest 0 0 5 0 1 = 1", "guest 2 0 5 0 1 = 2", "guest 1 1 5 0 1 = 3", "guest 3 1 5 0 1 = 4",
            "alike -1 = 2", "alike 0 = 2", "alike 1 = 13", "alike 2 = NONE");
    }

    /** "(Each by what is LEFT now.)"; "would leave just the same of all THINGS": who takes the rest leaves the same. */
    private static void alikeByWhatIsLeft() {
        Tale.tell("21 by what is left now", "things 2 = 7", "guest 0 0 5 0 1 = 1", "guest 1 0 6 0 1 = 2", "alike -1 = 0",
            "thing 0 3 6 = 9", "alike -1 = 0", "thing 0 3 5 = 6", "alike -1 = 1", "thing 0 3 1 = 5", "alike -1 = 1",
            "thing 0 3 0 = 1", "alike -1 = 0", "thing 1 3 5 = 9", "alike -1 = 1", "guest 1 1 6 0 1 = 2", "thing 0 3 5 = 0",
            "alike -1 = 0");
    }

    /** "(who finds nothing leaves all as it is)" */
    private static void alikeWhoFindsNothing() {
        Tale.tell("21 who finds nothing", "things 1 = 7", "guest 0 0 1 0 1 = 1", "guest 3 9 9 3 9 = 2", "alike -1 = 0",
            "thing 0 2 1 = 0", "alike -1 = 1", "alike 0 = 3", "thing 0 2 0 = 1", "alike -1 = 0", "thing 0 3 0 = 9",
            "alike -1 = 1", "lay 0 = 1", "lay 1 = 1");
    }

    /** "the fewest THINGS ..: how many; which": none, if no two are alike. */
    private static void layNone() {
        Tale.tell("22 none", "lay 0 = 0", "lay 1 = 0", "guest 2 0 1 0 1 = 1", "lay 0 = 0", "lay 1 = 0",
            "guest 3 0 2 0 1 = 2", "lay 0 = 0", "lay 1 = 0", "thing 0 2 1 = 0", "lay 0 = 0", "lay 1 = 0");
    }

    /** One is enough. */
    private static void layOne() {
        Tale.tell("22 one", "things 2 = 7", "guest 0 0 1 0 1 = 1", "guest 1 0 2 0 1 = 2", "thing 0 3 1 = 9", "lay 0 = 1",
            "lay 1 = 1", "told 11 = 9", "told 13 = 1", "thing 0 3 2 = 1", "lay 0 = 0", "lay 1 = 0");
        Tale.tell("22 the last of seven", "guest 0 6 1 0 1 = 1", "guest 1 6 2 0 1 = 2", "thing 6 3 1 = 9", "lay 0 = 1",
            "lay 1 = 64");
    }

    /** "2 at most"; "NONE": where three were needed, or nothing helps. */
    private static void layTwoAtMost() {
        // A, B need more than 1 of thing 0, C, D of thing 1
        String[] two = {"things 2 = 7", "guest 0 0 1 0 1 = 1", "guest 1 0 2 0 1 = 2", "guest 2 1 1 0 1 = 3",
            "guest 3 1 2 0 1 = 4", "thing 0 3 1 = 9", "thing 1 3 1 = 9", "lay 0 = 2", "lay 1 = 3", "thing 1 3 2 = 1",
            "lay 0 = 1", "lay 1 = 1", "thing 0 3 2 = 1", "lay 0 = 0", "lay 1 = 0"};
        Tale.tell("22 two", two);
        // 0 must be empty (else A and B take as much of it), 1 have 7 (for C and D), 2 have something (for A)
        Tale.tell("22 three are too many", "things 3 = 7", "thing 1 0 3 = 1", "thing 2 0 1 = 2", "thing 0 1 2 = 9",
            "thing 1 1 2 = 9", "thing 2 1 0 = 9", "guest 0 0 4 0 1 = 1", "guest 1 0 4 3 1 = 2", "guest 2 0 8 2 1 = 3",
            "guest 3 0 6 2 1 = 4", "lay 0 = NONE", "lay 1 = NONE", "thing 2 1 1 = 0", "lay 0 = 2", "lay 1 = 3");
        Tale.tell("22 nothing helps", "guest 0 5 5 0 1 = 1", "guest 1 5 5 0 9 = 2", "lay 0 = NONE", "lay 1 = NONE",
            "leave 1 = 1", "lay 0 = 0");
    }

    /** "which, least as bits": 0 and 1 are less than 2 alone only in bits, the fewest come first. */
    private static void layLeastAsBits() {
        // all nearest: A, B by thing k, whichever of them is laid
        for (int k = 0; k < 7; k++) {
            List<String> tale = new ArrayList<>(List.of("guest 0 " + k + " 1 0 1 = 1", "guest 1 " + k + " 2 0 1 = 2"));
            for (int t = 0; t < 7; t++) tale.add("thing " + t + " 1 1 = 9");
            tale.addAll(List.of("lay 0 = 1", "lay 1 = " + (1 << k)));
            Tale.tell("22 only thing " + k, tale);
        }
        // by fullest each thing will do
        Tale.tell("22 the least of all", "guest 0 0 1 1 1 = 1", "guest 1 0 2 1 1 = 2", "thing 0 1 1 = 9", "thing 1 1 1 = 9",
            "thing 2 1 1 = 9", "thing 3 1 1 = 9", "thing 4 1 1 = 9", "thing 5 1 1 = 9", "thing 6 1 1 = 9", "lay 0 = 1",
            "lay 1 = 1", "thing 0 2 1 = 0", "lay 1 = 2", "thing 1 2 1 = 0", "lay 1 = 4");
        for (int k = 1; k < 7; k++) {
            for (int j = 0; j < k; j++) {
                List<String> tale = new ArrayList<>(List.of("guest 0 " + j + " 1 0 1 = 1", "guest 1 " + j + " 2 0 1 = 2",
                    "guest 2 " + k + " 1 0 1 = 3", "guest 3 " + k + " 2 0 1 = 4"));
                for (int t = 0; t < 7; t++) tale.add("thing " + t + " 1 1 = 9");
                tale.addAll(List.of("lay 0 = 2", "lay 1 = " + (1 << j | 1 << k)));
                Tale.tell("22 only things " + j + ", " + k, tale);
            }
        }
    }

    /** "(each with any number 0 to 9; so much of it is LEFT then ..)": only 9, only 0 helps. */
    private static void layAnyNumber() {
        Tale.tell("22 by 9 alone", "things 1 = 7", "thing 0 1 8 = 9", "guest 0 0 8 0 1 = 1", "guest 1 0 9 0 1 = 2",
            "lay 0 = 1", "lay 1 = 1", "told 11 = 8");
        Tale.tell("22 by 0 alone", "things 3 = 7", "thing 0 0 5 = 0", "thing 1 0 3 = 1", "thing 2 0 8 = 2",
            "guest 0 4 9 0 1 = 1", "guest 1 6 9 0 1 = 2", "lay 0 = 1", "lay 1 = 1", "thing 0 3 0 = 9", "lay 0 = 0");
        Tale.tell("22 by 9 and 9 alone", "things 2 = 7", "thing 0 1 8 = 9", "thing 1 1 8 = 9", "guest 0 0 8 0 1 = 1",
            "guest 1 0 9 0 1 = 2", "guest 2 1 8 0 1 = 3", "guest 3 1 9 0 1 = 4", "lay 0 = 2", "lay 1 = 3");
        // A takes the fullest: 2 must be it, as B takes 1 and C 0; were there a 10, 2 alone would do
        Tale.tell("22 not by 10", "things 3 = 7", "guest 0 0 5 1 1 = 1", "guest 1 1 5 0 1 = 2", "guest 2 0 5 0 1 = 3",
            "lay 0 = 2", "lay 1 = 3", "thing 0 3 8 = 9", "lay 0 = 1", "lay 1 = 2", "thing 1 3 8 = 9", "lay 0 = 0");
    }

    /** "not LOCKED ones" */
    private static void layNotLocked() {
        Tale.tell("22 not locked ones", "things 2 = 7", "guest 0 0 1 0 1 = 1", "guest 1 0 2 0 1 = 2", "thing 0 3 1 = 9",
            "thing 1 3 1 = 9", "lay 1 = 1", "thing 0 2 1 = 0", "lay 0 = 1", "lay 1 = 2", "thing 1 2 1 = 0", "lay 0 = NONE",
            "lay 1 = NONE", "thing 0 2 0 = 1", "lay 0 = 1", "lay 1 = 1");
    }

    /** "LAY: how many (what = 0), which (1); NONE. OUTSIDE." */
    private static void layRefusals() {
        Tale.tell("22 what 0, 1", "lay -1 = OUTSIDE", "lay 2 = OUTSIDE", "lay MIN = OUTSIDE", "lay MAX = OUTSIDE",
            "lay 256 = OUTSIDE", "guest 0 5 5 0 1 = 1", "guest 1 5 5 0 9 = 2", "lay 2 = OUTSIDE", "lay -1 = OUTSIDE");
    }

    /** "THINGS of which it leaves more or less than there is now, as bits": none to all seven. */
    private static void hideBits() {
        Tale.tell("23 bits", "hide = 0", "pad " + FORTY, "hide = 0", "pad 0123456", "hide = 0", "guest 2 0 1 2 1 = 1",
            "pad C", "hide = 1", "pad CC", "hide = 3", "pad CCCCCC", "hide = 63", "pad CCCCCCC", "hide = 127",
            "pad CCCCCCC0123456", "hide = 0", "pad CCCCCCC012345", "hide = 64", "pad CCCCCCC123456", "hide = 1");
        Tale.tell("23 more", "thing 6 3 8 = 9", "pad 6", "hide = 64", "guest 0 6 1 0 1 = 1", "pad 6A", "hide = 0",
            "pad 6AA", "hide = 64", "pad A", "hide = 64", "done = 1", "hide = 0");
        Tale.tell("23 only what is warm is not seen", "guest 0 0 1 0 1 = 1", "pad A0", "hide = 0", "behind 0 1 = 9");
    }

    /** "NO, STATE, as of judge(2)." */
    private static void hideRefusals() {
        Tale.tell("23 refusals", "things 3 = 7", "pad A", "hide = STATE", "pad AE", "hide = NO", "pad 3", "hide = NO",
            "pad 2", "hide = 0", "pad A3", "hide = NO", "wipe = 2", "hide = 0");
    }

    /** "the fewest GUESTS (0 to 6)": six leave it, seven are too many. */
    private static void traceZeroToSix() {
        Tale.tell("24 0 to 6", "guest 2 0 1 2 1 = 1", "trace = 0", "pad C", "trace = 1", "pad CCCCC", "trace = 5",
            "pad CCCCCC", "trace = 6", "pad CCCCCCC", "trace = NONE", "pad " + "C".repeat(40), "trace = NONE",
            "pad CCCCCCC6", "trace = 6", "pad CCCCCCC0123456", "trace = 0");
        Tale.tell("24 one instead of many", "things 1 = 7", "guest 0 0 1 0 1 = 1", "guest 1 0 9 0 1 = 2",
            "pad AAAAAAAAA", "trace = 1", "pad AAAAAA", "trace = 6", "pad AAAAAAA", "trace = NONE", "pad AAAAAAAA",
            "trace = NONE", "pad AB", "trace = 1", "pad 0", "trace = 0");
    }

    /** "(no hours, nothing filled again, each can USE something), by whom just as much would be left of all THINGS; NONE" */
    private static void traceNone() {
        Tale.tell("24 more than now", "thing 0 3 8 = 9", "pad 0", "trace = NONE", "pad " + FORTY, "trace = 0",
            "guest 0 0 1 0 1 = 1", "pad 0A", "trace = 0", "pad 0AA", "trace = 1", "seen 0 1 = 1", "trace = 1");
        Tale.tell("24 who is there now", "things 1 = 7", "thing 0 2 1 = 0", "guest 0 0 1 0 1 = 1", "pad 0", "trace = 0",
            "thing 0 3 8 = 9", "trace = NONE");
        Tale.tell("24 all things", "things 2 = 7", "guest 1 0 1 2 1 = 1", "pad BB0", "trace = NONE", "pad BB1",
            "trace = 1");
    }

    /** "NO, STATE, likewise." */
    private static void traceRefusals() {
        Tale.tell("24 refusals", "things 3 = 7", "pad A", "trace = STATE", "pad AE", "trace = NO", "pad 3", "trace = NO",
            "pad 2", "trace = 0", "pad A3", "trace = NO", "wipe = 2", "trace = 0");
    }

    /** "if a THING more were LOCKED"; "(not -1: none more)" */
    private static void lockOneMore() {
        Tale.tell("25 one more", "things 2 = 7", "guest 0 0 1 0 1 = 1", "guest 1 1 1 0 1 = 2", "lock -1 1 = 2",
            "lock 0 1 = 1", "lock 1 1 = 1", "told 12 = 0", "told 22 = 0", "thing 0 2 1 = 0", "lock -1 1 = 1",
            "lock 0 1 = 1", "lock 1 1 = 0", "lock 1 0 = 1", "thing 1 2 1 = 0", "lock -1 1 = 0", "lock 0 1 = 0",
            "lock 1 0 = 1", "lock -1 0 = 1");
    }

    /** "all rows of m GUESTS (0 to 5 ..)": just so many, not fewer. */
    private static void lockLengths() {
        Tale.tell("25 0 to 5", "things 2 = 7", "guest 0 0 1 0 1 = 1", "guest 1 1 1 0 1 = 2", "lock -1 -1 = OUTSIDE",
            "lock -1 6 = OUTSIDE", "lock -1 0 = 1", "lock -1 1 = 2", "lock -1 2 = 3", "lock -1 5 = 6",
            "lock -1 MIN = OUTSIDE", "lock -1 MAX = OUTSIDE", "lock 0 5 = 1", "lock 0 6 = OUTSIDE", "lock 0 -1 = OUTSIDE");
        Tale.tell("25 as many as can be", "guest 0 0 1 2 1 = 1", "guest 1 0 2 2 1 = 2", "guest 2 0 3 2 1 = 3",
            "guest 3 0 4 2 1 = 4", "lock -1 4 = 256", "lock -1 5 = 1024", "lock 6 5 = 1024", "lock 0 5 = 1024",
            "lock -1 0 = 1");
        Tale.tell("25 nobody", "lock -1 0 = 1", "lock -1 1 = 0", "lock -1 5 = 0", "lock 6 5 = 0");
    }

    /** "(.. each can USE something)" */
    private static void lockEachCanUse() {
        Tale.tell("25 each can use something", "things 1 = 7", "guest 0 0 3 0 1 = 1", "lock -1 3 = 1", "lock -1 4 = 0",
            "guest 1 0 9 0 1 = 2", "lock -1 1 = 2", "lock -1 2 = 2", "lock -1 3 = 1", "lock -1 4 = 0", "thing 0 3 0 = 9",
            "lock -1 0 = 1", "lock -1 1 = 0");
        Tale.tell("25 of all things together", "things 2 = 7", "thing 0 3 1 = 9", "guest 0 0 9 0 1 = 1",
            "guest 1 1 9 0 1 = 2", "lock -1 1 = 2", "lock -1 2 = 1", "lock -1 3 = 0");
    }

    /** "UNKNOWN (not -1: none more); OUTSIDE." */
    private static void lockRefusals() {
        Tale.tell("25 refusals", "things 4 = 7", "lock 3 0 = 1", "lock 4 0 = UNKNOWN", "lock -2 0 = UNKNOWN",
            "lock 6 0 = UNKNOWN", "lock 7 0 = UNKNOWN", "lock MIN 0 = UNKNOWN", "lock MAX 0 = UNKNOWN",
            "lock 32 0 = UNKNOWN", "lock 4 6 = UNKNOWN", "lock -2 -1 = UNKNOWN", "lock 3 6 = OUTSIDE", "lock -1 6 = OUTSIDE");
    }

    /** The guests that a seed draws, three an evening, by (75 x and 74) left over by 65537. */
    private static int[] draws(int seed, int evenings) {
        int[] guests = new int[3 * evenings];
        long x = seed;
        for (int i = 0; i < guests.length; i++) {
            x = Math.floorMod(75 * x + 74, 65537L);
            guests[i] = (int) (x % 4);
        }
        return guests;
    }

    private static int count(int[] guests, int guest) {
        int count = 0;
        for (int each : guests) if (each == guest) count++;
        return count;
    }

    /** "for each three times x, the seed at first, becomes (75 x and 74) left over by 65537: GUEST x left over by 4 comes" */
    private static void yearDraws() {
        // from 0: 74, 5624, 28652 (C, A, A), then 51790, 17641, 12409 (C, B, B)
        Tale.tell("26 three times", "guest 0 0 1 0 1 = 1", "year 0 1 0 = 2", "year 0 2 0 = 2", "guest 1 1 1 0 1 = 2",
            "year 0 1 0 = 2", "year 0 2 0 = 4", "guest 2 2 1 0 1 = 3", "year 0 1 0 = 3", "year 0 2 0 = 6",
            "guest 3 3 1 0 1 = 4", "year 0 1 0 = 3", "year 0 2 0 = 6", "year 0 1 1 = 2", "year 0 2 1 = 2",
            "leave 0 = 3", "year 0 1 0 = 1", "year 0 1 1 = 0");
    }

    /** "A YEAR by a seed (0 to 9999)" */
    private static void yearSeeds() {
        int[] seeds = {0, 1, 2, 3, 872, 873, 5000, 9998, 9999};
        for (int seed : seeds) {
            int[] guests = draws(seed, 60);
            for (int g = 0; g < 4; g++) {
                Tale.tell("26 seed " + seed, "guest " + g + " 0 1 0 1 = 1", "year " + seed + " 60 0 = " + count(guests, g),
                    "year " + seed + " 60 1 = " + count(guests, g));
            }
        }
        Tale.tell("26 0 to 9999", "guest 0 0 1 0 1 = 1", "year -1 1 0 = OUTSIDE", "year 10000 1 0 = OUTSIDE",
            "year 0 1 0 = 2", "year 9999 1 0 = " + count(draws(9999, 1), 0), "year MIN 1 0 = OUTSIDE",
            "year MAX 1 0 = OUTSIDE", "year 65537 1 0 = OUTSIDE");
    }

    /** "of m EVENINGS (1 to 60)" */
    private static void yearLengths() {
        Tale.tell("26 1 to 60", "year 0 0 2 = OUTSIDE", "year 0 61 2 = OUTSIDE", "year 0 1 2 = 1", "year 0 2 2 = 2",
            "year 0 59 2 = 59", "year 0 60 2 = 60", "year 0 -1 2 = OUTSIDE", "year 0 MIN 2 = OUTSIDE",
            "year 0 MAX 2 = OUTSIDE", "year 0 257 2 = OUTSIDE");
        for (int m = 1; m <= 60; m++) {
            SevenPlates x = new SevenPlates();
            x.guest(3, 0, 1, 0, 1);
            c.due("26 of " + m, x.year(17, m, 0), count(draws(17, m), 3));
        }
    }

    /** "each from what is LEFT now"; "(if there is such, and something to USE)" */
    private static void yearEachFromNow() {
        // the first evening of 0 is C, A, A, the second C, B, B
        Tale.tell("26 each from now", "things 1 = 7", "guest 2 0 9 0 1 = 1", "year 0 1 0 = 9", "year 0 2 0 = 18",
            "year 0 2 1 = 2", "guest 0 0 1 0 1 = 2", "year 0 1 0 = 9", "year 0 1 1 = 1", "year 0 2 0 = 18",
            "thing 0 3 1 = 9", "year 0 2 0 = 2", "year 0 2 1 = 2", "thing 0 3 0 = 1", "year 0 2 0 = 0", "year 0 2 1 = 0",
            "year 0 2 2 = 2", "state 0 0 = 0");
        // who takes what is next begins with 0 each evening: C 0, A 1, A 2, then C 0
        Tale.tell("26 none used yet, each evening", "guest 0 0 1 2 1 = 1", "guest 2 0 1 2 1 = 2", "year 0 1 1 = 1",
            "year 0 2 1 = 2", "year 0 2 0 = 4");
    }

    /** "EVENINGS that leave all as it is": none, all. */
    private static void yearUntouched() {
        Tale.tell("26 evenings that leave all as it is", "year 0 60 2 = 60", "guest 1 0 1 0 1 = 1", "year 0 1 2 = 1",
            "year 0 2 2 = 1", "guest 0 6 1 0 1 = 2", "year 0 1 2 = 0", "year 0 2 2 = 0", "year 0 2 1 = 2",
            "guest 2 0 1 0 1 = 3", "guest 3 0 1 0 1 = 4", "year 0 60 2 = 0", "year 9999 60 2 = 0");
    }

    /** "A YEAR: eaten (what = 0), how often (1), EVENINGS (2). OUTSIDE." */
    private static void yearRefusals() {
        Tale.tell("26 what 0 to 2", "year 0 1 -1 = OUTSIDE", "year 0 1 3 = OUTSIDE", "year 0 1 MIN = OUTSIDE",
            "year 0 1 MAX = OUTSIDE", "year 0 1 0 = 0", "year 0 1 1 = 0", "year 0 1 2 = 1", "year -1 0 3 = OUTSIDE",
            "year 10000 61 -1 = OUTSIDE", "year 9999 61 0 = OUTSIDE", "year 10000 60 2 = OUTSIDE", "year 9999 60 3 = OUTSIDE");
    }

    /** "kept in an IMAGE (0, 1): 1. OUTSIDE."; "OUTSIDE; STATE: it was not." */
    private static void imageNumbers() {
        Tale.tell("27 0, 1", "image -1 = OUTSIDE", "image 2 = OUTSIDE", "image MIN = OUTSIDE", "image MAX = OUTSIDE",
            "image 256 = OUTSIDE", "restore -1 = OUTSIDE", "restore 2 = OUTSIDE", "restore MIN = OUTSIDE",
            "restore MAX = OUTSIDE", "restore 0 = STATE", "restore 1 = STATE", "image 1 = 1", "restore 0 = STATE",
            "restore 1 = 1", "restore 2 = OUTSIDE", "image 0 = 1", "restore 0 = 1", "restore 1 = 1", "image 2 = OUTSIDE",
            "image -1 = OUTSIDE", "restore -1 = OUTSIDE");
    }

    /** "All but the PAD is kept": things, guests, sights, what is left and how warm; the PAD stays as it is. */
    private static void imageKeepsAllButThePad() {
        Tale.tell("28 all but the pad", "things 3 = 7", "thing 2 0 9 = 2", "thing 2 1 5 = 9", "thing 1 2 1 = 0",
            "guest 3 0 2 0 7 = 1", "pad D.", "done = 2", "seen 2 4 = 1", "pad DDD", "image 0 = 1", "told 0 = 3", "wipe = 3",
            "restore 0 = 1", "told 0 = 0", "pad D0E", "things 7 = 3", "leave 3 = 0", "guest 0 1 1 1 1 = 1", "seen 6 6 = 1",
            "thing 0 1 3 = 9", "thing 0 2 1 = 0", "restore 0 = 1", "told 0 = 3", "fault = 2", "told 1 = 3", "told 2 = 8",
            "told 3 = 4", "told 10 = 0", "told 11 = 9", "told 12 = 0", "told 13 = 7", "told 14 = 8", "told 15 = NONE",
            "told 22 = 1", "told 30 = 9", "told 31 = 5", "told 33 = 5", "told 35 = 4", "told 40 = OUTSIDE",
            "told 100 = OUTSIDE", "told 400 = 0", "told 401 = 2", "told 402 = 0", "told 403 = 7");
    }

    /** All of the last THING and the last GUEST, each number of them, is kept, too. */
    private static void imageKeepsTheLast() {
        Tale.tell("28 the last thing and the last guest", "thing 6 0 5 = 6", "thing 6 1 8 = 9", "guest 3 5 2 3 4 = 1",
            "guest 0 1 3 2 5 = 2", "thing 0 2 1 = 0", "thing 1 2 1 = 0", "thing 2 2 1 = 0", "thing 3 2 1 = 0",
            "thing 4 2 1 = 0", "thing 5 2 1 = 0", "pad D..", "done = 3", "thing 6 2 1 = 0", "seen 6 2 = 1", "image 1 = 1",
            "thing 6 0 1 = 5", "thing 6 2 0 = 1", "thing 6 1 3 = 8", "guest 3 1 1 1 1 = 2", "guest 0 2 2 1 2 = 2",
            "seen 6 9 = 1", "told 70 = 1", "told 71 = 3", "told 72 = 0", "told 73 = 3", "told 74 = 0", "told 75 = 9",
            "restore 1 = 1", "told 70 = 5", "told 71 = 8", "told 72 = 1", "told 73 = 6", "told 74 = 7", "told 75 = 2",
            "told 400 = 5", "told 401 = 2", "told 402 = 3", "told 403 = 4", "told 100 = 1", "told 101 = 3", "told 102 = 2",
            "told 103 = 5");
    }

    /** "It is as it was when it was kept": again and again, whatever comes behind; the last time it was kept counts. */
    private static void restoreWhatWasKept() {
        Tale.tell("28 as it was when it was kept", "image 0 = 1", "thing 0 3 5 = 9", "image 1 = 1", "thing 0 3 2 = 5",
            "restore 0 = 1", "told 13 = 9", "thing 0 3 1 = 9", "restore 1 = 1", "told 13 = 5", "restore 0 = 1",
            "told 13 = 9", "restore 1 = 1", "thing 0 3 0 = 5", "image 1 = 1", "restore 0 = 1", "told 13 = 9",
            "restore 1 = 1", "told 13 = 0");
    }

    /** Things and sights of an image are fewer or more than now: what is not there is not told. */
    private static void restoreBringsBackTheFewer() {
        Tale.tell("28 fewer and more", "things 1 = 7", "seen 0 0 = 1", "image 0 = 1", "things 7 = 1", "seen 6 9 = 1",
            "seen 5 9 = 2", "image 1 = 1", "restore 0 = 1", "told 3 = 1", "forget = 1", "state 1 0 = UNKNOWN",
            "seen 6 1 = UNKNOWN", "restore 1 = 1", "told 3 = 96", "state 6 0 = 9", "forget = 2", "restore 0 = 1",
            "told 3 = 1");
    }

    /** "0 signs, 1 THINGS, 2 GUESTS (bits), 3 SIGHTS (bits of THINGS) .. OUTSIDE" */
    private static void toldNumbers() {
        Tale.tell("29 0 to 3", "told -1 = OUTSIDE", "told 4 = OUTSIDE", "told 5 = OUTSIDE", "told 9 = OUTSIDE",
            "told MIN = OUTSIDE", "told MAX = OUTSIDE", "told -10 = OUTSIDE", "told -100 = OUTSIDE", "told 0 = 0",
            "told 1 = 7", "told 2 = 0", "told 3 = 0", "pad " + FORTY, "told 0 = 40", "guest 0 0 1 0 1 = 1", "told 2 = 1",
            "guest 3 0 1 0 1 = 2", "told 2 = 9", "seen 6 0 = 1", "told 3 = 64", "seen 0 0 = 2", "told 3 = 65",
            "things 1 = 7", "told 1 = 1", "told 3 = 0", "told 1000 = OUTSIDE", "told 1100 = OUTSIDE");
    }

    /** "10 times (1 and a THING) and 0 SIZE .. 5 the SIGHT (NONE)": of a THING that there is. */
    private static void toldOfThings() {
        for (int n = 1; n <= 7; n++) {
            SevenPlates x = new SevenPlates();
            x.things(n);
            for (int what = 10; what < 100; what++) {
                int t = what / 10 - 1, i = what % 10;
                int[] due = {t, 9, 0, 9, 0, -6};
                c.due("29 of " + n + ", told " + what, x.told(what), t < n && i < 6 ? due[i] : -2);
            }
        }
        Tale.tell("29 of a thing", "things 2 = 7", "told 10 = 0", "told 15 = NONE", "told 16 = OUTSIDE", "told 19 = OUTSIDE",
            "told 20 = 1", "told 25 = NONE", "told 26 = OUTSIDE", "told 30 = OUTSIDE", "told 35 = OUTSIDE", "told 9 = OUTSIDE",
            "seen 1 0 = 1", "told 25 = 0", "seen 1 9 = 1", "told 25 = 9", "things 7 = 2", "told 75 = NONE",
            "told 76 = OUTSIDE", "told 80 = OUTSIDE", "told 99 = OUTSIDE");
    }

    /** "100 times (1 and a GUEST that there is) and 0 SIZE, 1 HUNGER, 2 HABIT, 3 OFTEN" */
    private static void toldOfGuests() {
        for (int there = 0; there < 16; there++) {
            SevenPlates x = new SevenPlates();
            for (int g = 0; g < 4; g++) if ((there >> g & 1) == 1) x.guest(g, 5 + g, 1 + g, 3 - g, 9 - g);
            for (int g = -1; g < 6; g++) {
                int[] due = {5 + g, 1 + g, 3 - g, 9 - g};
                boolean is = g >= 0 && g < 4 && (there >> g & 1) == 1;
                for (int i = 0; i < 6; i++) {
                    if (g == -1 && i < 4) continue;
                    c.due("29 guests " + there + ", told " + (100 * (1 + g) + i), x.told(100 * (1 + g) + i), is && i < 4 ? due[i] : -2);
                }
                if (g >= 0) c.due("29 guests " + there + ", the last", x.told(100 * (1 + g) + 99), -2);
            }
        }
        Tale.tell("29 of a guest", "told 100 = OUTSIDE", "guest 0 9 8 3 7 = 1", "told 99 = OUTSIDE", "told 100 = 9",
            "told 101 = 8", "told 102 = 3", "told 103 = 7", "told 104 = OUTSIDE", "told 110 = OUTSIDE", "told 199 = OUTSIDE",
            "told 200 = OUTSIDE", "guest 3 0 1 0 1 = 2", "told 400 = 0", "told 403 = 1", "told 404 = OUTSIDE",
            "told 500 = OUTSIDE", "leave 0 = 1", "told 100 = OUTSIDE", "told 103 = OUTSIDE");
    }

    /** "An object is used for at most 512 calls": up to the last of them it answers as due. */
    private static void calls512() {
        SevenPlates x = new SevenPlates();
        c.due("calls: guest", x.guest(0, 0, 1, 1, 1), 1);
        c.due("calls: image", x.image(0), 1);
        for (int i = 0; i < 101; i++) {
            c.due("calls: say", x.say('A'), 1);
            c.due("calls: done", x.done(), 1);
            c.due("calls: warm", x.state(0, 1), 9);
            c.due("calls: restore", x.restore(0), 1);
            c.due("calls: seen", x.seen(6, i % 10), 1);
        }
        c.due("calls: rows", x.rows(6, 0), 0);
        c.due("calls: trace", x.trace(), 0);
        c.due("calls: year", x.year(0, 60, 0) >= 2 ? 1 : 0, 1);
        c.due("calls: forget", x.forget(), 1);
        c.due("calls: the 512th", x.rows(6, 0), 7);
    }
}
