import java.util.ArrayList;
import java.util.List;

/**
 * Part 3 of the document and promises 15 to 20, sentence by sentence, at their edges. Tale looks behind each refused
 * call and each question, that nothing is changed.
 */
public final class SightsBoundsTest {
    private static final Check c = new Check();

    public static void main(String[] args) {
        sevenSights();
        soMuchWasLeft();
        seenRefusals();
        forget();
        rowLengths();
        rowsOfNone();
        rowsThatFit();
        rowsFromNowOn();
        eachCanUse();
        fewest();
        sureAndMaybe();
        sureAndMaybeOfNone();
        placesOfTheFirst();
        firstByGuests();
        rowsRefusals();
        cupBits();
        cupRefusals();
        lookOfNone();
        lookAtTheLeast();
        lookAtTheMost();
        lookRefusals();
        beliefLengths();
        beliefOfNoGuests();
        beliefByOften();
        whoFindsNothing();
        lowestTerms();
        greatNumbers();
        beliefRefusals();
        Tale.end();
        c.end();
    }

    /** A takes 1 of thing 0, B 2 of thing 1 (a sixth B finds it empty, and takes 2 of thing 0). */
    private static List<String> pair(String... more) {
        List<String> tale = new ArrayList<>(List.of("things 2 = 7", "guest 0 0 1 0 1 = 1", "guest 1 1 2 0 2 = 2"));
        tale.addAll(List.of(more));
        return tale;
    }

    /** "SIGHTS, 7 at most"; "(of that THING none ahead, or otherwise): how many" */
    private static void sevenSights() {
        List<String> tale = new ArrayList<>(List.of("told 3 = 0"));
        for (int t = 6; t >= 0; t--) tale.add("seen " + t + " " + t + " = " + (7 - t));
        tale.add("told 3 = 127");
        for (int t = 0; t < 7; t++) {
            tale.addAll(List.of("seen " + t + " " + (t + 1) + " = 7", "told " + (10 * (1 + t) + 5) + " = " + (t + 1)));
        }
        tale.addAll(List.of("seen 7 0 = UNKNOWN", "told 3 = 127", "forget = 7", "seen 3 3 = 1", "seen 3 3 = 1"));
        Tale.tell("15 7 at most", tale);
    }

    /** "of a THING so much was LEFT (0 to 9)": more than is laid, too. */
    private static void soMuchWasLeft() {
        for (int t = 0; t < 7; t++) {
            String seen = "seen " + t + " ", told = "told " + (10 * (1 + t) + 5) + " = ";
            Tale.tell("15 0 to 9", seen + "-1 = OUTSIDE", seen + "10 = OUTSIDE", told + "NONE", "told 3 = 0",
                seen + "0 = 1", told + "0", seen + "-1 = OUTSIDE", seen + "10 = OUTSIDE", told + "0", seen + "9 = 1",
                told + "9", seen + "-1 = OUTSIDE", seen + "10 = OUTSIDE", seen + "MIN = OUTSIDE", seen + "MAX = OUTSIDE",
                seen + "256 = OUTSIDE", seen + "-6 = OUTSIDE", told + "9", "thing " + t + " 1 0 = 9", seen + "9 = 1",
                seen + "1 = 1", told + "1", "state " + t + " 0 = 0");
        }
    }

    /** UNKNOWN is ahead of OUTSIDE. */
    private static void seenRefusals() {
        Tale.tell("15 which refusal is the first", "things 3 = 7", "seen 3 0 = UNKNOWN", "seen -1 0 = UNKNOWN",
            "seen 6 0 = UNKNOWN", "seen 7 0 = UNKNOWN", "seen MIN 0 = UNKNOWN", "seen MAX 0 = UNKNOWN",
            "seen 32 0 = UNKNOWN", "seen 3 10 = UNKNOWN", "seen -1 -1 = UNKNOWN", "seen 2 10 = OUTSIDE", "seen 2 0 = 1",
            "seen 3 0 = UNKNOWN", "told 3 = 4");
    }

    /** "SIGHTS go: how many there were." */
    private static void forget() {
        Tale.tell("16 none, one, all", "forget = 0", "seen 6 0 = 1", "forget = 1", "forget = 0", "told 3 = 0",
            "told 75 = NONE", "seen 0 0 = 1", "seen 0 1 = 1", "seen 1 9 = 2", "forget = 2", "rows 0 0 = 1",
            "seen 0 1 = 1", "seen 1 1 = 2", "seen 2 1 = 3", "seen 3 1 = 4", "seen 4 1 = 5", "seen 5 1 = 6",
            "seen 6 1 = 7", "rows 0 0 = 0", "forget = 7", "rows 0 0 = 1", "told 3 = 0");
    }

    /** "ROWS of m GUESTS at most (0 to 6; of none, too)": m and all that are shorter. */
    private static void rowLengths() {
        int[] ofTwo = {1, 3, 7, 15, 31, 63, 127};
        List<String> tale = pair("rows -1 0 = OUTSIDE", "rows 7 0 = OUTSIDE");
        for (int m = 0; m <= 6; m++) tale.add("rows " + m + " 0 = " + ofTwo[m]);
        tale.addAll(List.of("rows -1 0 = OUTSIDE", "rows 7 0 = OUTSIDE", "rows MIN 0 = OUTSIDE", "rows MAX 0 = OUTSIDE",
            "rows 256 0 = OUTSIDE"));
        Tale.tell("17 0 to 6 guests", tale);
        Tale.tell("17 four guests", "guest 0 0 1 0 1 = 1", "guest 1 1 1 0 1 = 2", "guest 2 2 1 0 1 = 3",
            "guest 3 3 1 0 1 = 4", "rows 1 0 = 5", "rows 5 0 = 1365", "rows 6 0 = 5461");
        Tale.tell("17 one guest", "guest 3 0 1 0 1 = 1", "rows 0 0 = 1", "rows 1 0 = 2", "rows 6 0 = 7");
    }

    /** "of none, too": nobody comes, and all SIGHTS are so, or not. */
    private static void rowsOfNone() {
        Tale.tell("17 of none", "rows 0 0 = 1", "rows 6 0 = 1", "rows 0 1 = 0", "rows 6 1 = 0", "rows 0 2 = 0",
            "rows 0 3 = 0", "rows 0 4 = NONE", "seen 0 9 = 1", "rows 0 0 = 1", "rows 6 1 = 0", "seen 0 8 = 1",
            "rows 0 0 = 0", "rows 6 0 = 0", "rows 0 1 = NONE", "rows 6 1 = NONE", "thing 0 3 8 = 9", "rows 0 0 = 1",
            "rows 0 1 = 0");
        Tale.tell("17 of none, of all", pair("seen 0 9 = 1", "rows 0 0 = 1", "rows 1 0 = 2", "seen 1 9 = 2",
            "rows 6 0 = 1", "rows 6 1 = 0"));
    }

    /** "all SIGHTS are so": each of them, just so, when all is over (not on the way). */
    private static void rowsThatFit() {
        Tale.tell("17 all sights are so", pair("seen 0 8 = 1", "rows 1 0 = 1", "rows 2 0 = 3", "seen 1 7 = 2",
            "rows 1 0 = 0", "rows 2 0 = 2", "rows 6 0 = 2", "seen 1 6 = 2", "rows 6 0 = 0", "seen 1 5 = 2", "rows 2 0 = 0",
            "rows 3 0 = 3", "rows 6 0 = 3", "seen 0 0 = 2", "rows 6 0 = 0", "forget = 2", "seen 0 3 = 1", "rows 5 0 = 0",
            "rows 6 0 = 1"));
        Tale.tell("17 none is left", "things 1 = 7", "guest 0 0 4 0 1 = 1", "seen 0 1 = 1", "rows 6 0 = 1",
            "rows 6 1 = 2", "seen 0 0 = 1", "rows 2 0 = 0", "rows 3 0 = 1", "rows 6 0 = 1", "rows 6 1 = 3");
    }

    /** "from what is LEFT now on": more than that can not have been left; none was used yet. */
    private static void rowsFromNowOn() {
        Tale.tell("17 from now on", pair("thing 0 3 5 = 9", "seen 0 5 = 1", "rows 0 0 = 1", "seen 0 4 = 1",
            "rows 1 0 = 1", "seen 0 6 = 1", "rows 6 0 = 0", "seen 0 9 = 1", "rows 6 0 = 0"));
        Tale.tell("17 none was used yet", "things 3 = 7", "guest 2 0 1 2 1 = 1", "pad C", "done = 1", "seen 0 7 = 1",
            "seen 1 9 = 2", "rows 1 0 = 1", "cup 0 1 = 4", "pad CC", "rows 1 0 = 1");
    }

    /** "it fits, if each can USE something": not one more than finds something. */
    private static void eachCanUse() {
        Tale.tell("17 each can use something", "things 1 = 7", "guest 0 0 9 0 1 = 1", "rows 1 0 = 2", "rows 2 0 = 2",
            "rows 6 0 = 2", "seen 0 0 = 1", "rows 6 0 = 1", "rows 6 1 = 1", "thing 0 2 1 = 0", "rows 6 0 = 0",
            "seen 0 9 = 1", "rows 6 0 = 1", "thing 0 2 0 = 1", "thing 0 3 0 = 9", "seen 0 0 = 1", "rows 6 0 = 1",
            "rows 6 1 = 0");
    }

    /** "the fewest GUESTS of these"; "NONE (1 ..)" */
    private static void fewest() {
        for (int k = 0; k <= 7; k++) {
            List<String> tale = new ArrayList<>(List.of("things 1 = 7", "guest 1 0 1 0 1 = 1", "seen 0 " + (9 - k) + " = 1"));
            tale.add("rows 6 1 = " + (k <= 6 ? "" + k : "NONE"));
            if (k > 0 && k <= 6) tale.addAll(List.of("rows " + (k - 1) + " 1 = NONE", "rows " + k + " 1 = " + k));
            Tale.tell("17 the fewest are " + k, tale);
        }
        Tale.tell("17 the fewest of several", "things 1 = 7", "guest 0 0 1 0 1 = 1", "guest 1 0 3 0 1 = 2",
            "seen 0 3 = 1", "rows 6 1 = 2", "rows 6 0 = 6", "rows 5 0 = 5", "rows 1 1 = NONE");
    }

    /** "SURE: GUESTS who are in all of these; MAYBE: those in some" */
    private static void sureAndMaybe() {
        Tale.tell("17 sure and maybe", "things 1 = 7", "guest 0 0 1 0 1 = 1", "guest 3 0 3 0 1 = 2", "seen 0 8 = 1",
            "rows 6 2 = 1", "rows 6 3 = 1", "seen 0 6 = 1", "rows 1 2 = 8", "rows 1 3 = 8", "rows 2 2 = 8",
            "rows 3 2 = 0", "rows 3 3 = 9", "seen 0 5 = 1", "rows 3 2 = 9", "rows 3 3 = 9", "rows 4 2 = 1", "rows 4 3 = 9",
            "forget = 1", "rows 0 3 = 0", "rows 1 2 = 0", "rows 1 3 = 9");
        Tale.tell("17 all four", "things 4 = 7", "guest 0 0 1 0 1 = 1", "guest 1 1 1 0 1 = 2", "guest 2 2 1 0 1 = 3",
            "guest 3 3 1 0 1 = 4", "seen 0 8 = 1", "seen 1 8 = 2", "seen 2 8 = 3", "seen 3 8 = 4", "rows 6 0 = 24",
            "rows 6 2 = 15", "rows 6 3 = 15", "rows 3 2 = 0");
    }

    /** "SURE, MAYBE are 0 of none." */
    private static void sureAndMaybeOfNone() {
        Tale.tell("17 of none", pair("seen 0 0 = 1", "rows 6 0 = 0", "rows 6 2 = 0", "rows 6 3 = 0", "seen 0 9 = 1",
            "rows 0 2 = 0", "rows 0 3 = 0", "rows 6 2 = 0", "rows 6 3 = 2"));
    }

    /** "the GUEST at a place of the first (4 on: 4 and the place); NONE": places 0 to 5, as long as the row is. */
    private static void placesOfTheFirst() {
        for (int k = 0; k <= 7; k++) {
            List<String> tale = new ArrayList<>(List.of("things 1 = 7", "guest 2 0 1 0 1 = 1", "seen 0 " + (9 - k) + " = 1"));
            for (int place = 0; place < 6; place++) {
                tale.add("rows 6 " + (4 + place) + " = " + (k <= 6 && place < k ? "2" : "NONE"));
            }
            tale.add("rows 6 10 = OUTSIDE");
            Tale.tell("17 places of a row of " + k, tale);
        }
    }

    /** "of the first (of the fewest, then by GUESTS)" */
    private static void firstByGuests() {
        Tale.tell("17 by guests", pair("seen 0 8 = 1", "seen 1 7 = 2", "rows 6 0 = 2", "rows 6 4 = 0", "rows 6 5 = 1",
            "rows 6 6 = NONE", "seen 1 5 = 2", "rows 6 4 = 0", "rows 6 5 = 1", "rows 6 6 = 1", "rows 6 7 = NONE"));
        Tale.tell("17 the fewest ahead of the least guests", "things 1 = 7", "guest 0 0 1 0 1 = 1",
            "guest 1 0 2 0 1 = 2", "guest 2 0 3 0 1 = 3", "guest 3 0 4 0 1 = 4", "seen 0 5 = 1", "rows 6 1 = 1",
            "rows 6 4 = 3", "rows 6 5 = NONE", "seen 0 4 = 1", "rows 6 1 = 2", "rows 6 4 = 0", "rows 6 5 = 3",
            "leave 3 = 3", "rows 6 4 = 1", "rows 6 5 = 2");
    }

    /** "OUTSIDE: m; what 0 to 9." */
    private static void rowsRefusals() {
        Tale.tell("17 what 0 to 9", pair("rows 0 -1 = OUTSIDE", "rows 0 10 = OUTSIDE", "rows 0 9 = NONE", "rows 0 0 = 1",
            "rows 6 10 = OUTSIDE", "rows 6 -1 = OUTSIDE", "rows 6 9 = NONE", "rows 6 11 = OUTSIDE", "rows 0 MIN = OUTSIDE",
            "rows 0 MAX = OUTSIDE", "rows 7 9 = OUTSIDE", "rows -1 9 = OUTSIDE", "rows 7 10 = OUTSIDE",
            "rows -1 -1 = OUTSIDE", "rows 0 256 = OUTSIDE"));
    }

    /** "GUESTS who could have been first at a THING, by these rows, as bits (bit 4: nobody used it)" */
    private static void cupBits() {
        Tale.tell("18 nobody", "cup 0 0 = 16", "cup 6 6 = 16", "guest 0 0 1 0 1 = 1", "cup 0 0 = 16", "cup 0 1 = 17",
            "cup 1 6 = 16", "seen 0 8 = 1", "cup 0 0 = 0", "cup 1 0 = 0", "cup 0 1 = 1", "cup 1 1 = 16", "seen 0 0 = 1",
            "cup 0 6 = 0", "cup 1 6 = 0");
        Tale.tell("18 all five bits", "things 2 = 7", "guest 0 0 1 0 1 = 1", "guest 1 0 1 0 1 = 2", "guest 2 0 1 0 1 = 3",
            "guest 3 0 1 0 1 = 4", "cup 0 1 = 31", "cup 1 1 = 16", "seen 0 9 = 1", "cup 0 6 = 16", "seen 0 8 = 1",
            "cup 0 6 = 15", "leave 0 = 3", "cup 0 6 = 14");
        Tale.tell("18 the first of several at it", "things 1 = 7", "guest 0 0 1 0 1 = 1", "guest 3 0 4 3 1 = 2",
            "seen 0 4 = 1", "cup 0 2 = 9", "cup 0 1 = 0");
    }

    /** "CUP, as bits. UNKNOWN; OUTSIDE." */
    private static void cupRefusals() {
        Tale.tell("18 refusals", pair("cup 0 -1 = OUTSIDE", "cup 0 7 = OUTSIDE", "cup 0 MIN = OUTSIDE",
            "cup 0 MAX = OUTSIDE", "cup 0 5 = 17", "cup 0 6 = 19", "cup 1 6 = 18", "cup 2 6 = UNKNOWN", "cup -1 0 = UNKNOWN",
            "cup 6 0 = UNKNOWN", "cup 7 0 = UNKNOWN", "cup MIN 0 = UNKNOWN", "cup MAX 0 = UNKNOWN", "cup 2 7 = UNKNOWN",
            "cup -1 -1 = UNKNOWN", "cup 32 0 = UNKNOWN"));
    }

    /** "NONE: all are seen, or no rows fit." */
    private static void lookOfNone() {
        Tale.tell("19 all are seen", pair("look 0 0 = 0", "look 0 1 = 1", "seen 0 9 = 1", "look 0 0 = 1", "look 0 1 = 1",
            "seen 1 9 = 2", "look 0 0 = NONE", "look 0 1 = NONE", "look 6 0 = NONE", "look 6 1 = NONE"));
        Tale.tell("19 no rows fit", pair("seen 0 0 = 1", "look 6 0 = NONE", "look 6 1 = NONE", "seen 0 8 = 1",
            "look 0 0 = NONE", "look 0 1 = NONE", "look 1 0 = 1", "look 1 1 = 1"));
        Tale.tell("19 the last of seven", "seen 0 9 = 1", "seen 1 9 = 2", "seen 2 9 = 3", "seen 3 9 = 4", "seen 4 9 = 5",
            "seen 5 9 = 6", "look 6 0 = 6", "look 6 1 = 1", "seen 6 9 = 7", "look 6 0 = NONE");
    }

    /** "the least": of THINGS that are as good. */
    private static void lookAtTheLeast() {
        Tale.tell("19 the least", "guest 0 3 1 0 1 = 1", "guest 1 5 1 0 1 = 2", "look 0 0 = 0", "look 0 1 = 1",
            "look 1 0 = 3", "look 1 1 = 2", "seen 3 9 = 1", "look 1 0 = 5", "look 1 1 = 1", "seen 5 9 = 2", "look 1 0 = 0",
            "look 1 1 = 1", "forget = 2", "thing 3 2 1 = 0", "look 1 0 = 2", "look 1 1 = 2");
    }

    /** "whatever is LEFT of it, fewest of these rows are left at the most" */
    private static void lookAtTheMost() {
        // none, A, B, AA, AB, BA, BB: of 0 is left 9 8 9 7 8 8 9 (3, 3, 1), of 1 9 9 7 9 7 7 5 (3, 3, 1)
        Tale.tell("19 at the most", pair("look 2 0 = 0", "look 2 1 = 3", "seen 0 9 = 1", "look 2 0 = 1", "look 2 1 = 1",
            "forget = 1", "guest 1 1 9 0 1 = 2", "look 2 0 = 0", "look 2 1 = 3"));
        // none, A, B, C: of 0 is left 9 8 8 8, of 1 9 9 9 9, and with C at 1 9 8 8 9 and 9 9 9 8
        Tale.tell("19 not the one with most answers", "things 2 = 7", "guest 0 0 1 0 1 = 1", "guest 1 0 1 0 1 = 2",
            "guest 2 0 1 0 1 = 3", "look 1 0 = 0", "look 1 1 = 3", "guest 2 1 1 0 1 = 3", "look 1 0 = 0", "look 1 1 = 2");
        Tale.tell("19 nothing is left of it", "things 1 = 7", "thing 0 1 0 = 9", "look 0 0 = 0", "look 0 1 = 1",
            "thing 0 1 1 = 0", "guest 0 0 1 0 1 = 1", "guest 1 0 1 0 1 = 2", "look 6 0 = 0", "look 6 1 = 2");
        Tale.tell("19 most at m 6", "things 1 = 7", "guest 0 0 1 0 1 = 1", "look 6 0 = 0", "look 6 1 = 1",
            "thing 0 2 1 = 0", "look 6 1 = 1");
    }

    /** "OUTSIDE": m, what. */
    private static void lookRefusals() {
        // by the number of As: 6, 21, 36 (six Bs among them), 35 ..; by that of Bs: 7, 21, 35, 35, 21, 8
        Tale.tell("19 refusals", pair("look -1 0 = OUTSIDE", "look 7 0 = OUTSIDE", "look 0 -1 = OUTSIDE",
            "look 0 2 = OUTSIDE", "look MIN 0 = OUTSIDE", "look MAX 0 = OUTSIDE", "look 0 MIN = OUTSIDE",
            "look 0 MAX = OUTSIDE", "look 7 2 = OUTSIDE", "look 6 0 = 1", "look 6 1 = 35", "look 0 1 = 1"));
    }

    /** "m GUESTS come": 0 to 6. */
    private static void beliefLengths() {
        // A comes one time of three, and it must be A each time
        int[] lower = {1, 3, 9, 27, 81, 243, 729};
        for (int m = 0; m <= 6; m++) {
            Tale.tell("20 of " + m, pair("seen 0 " + (9 - m) + " = 1", "belief " + m + " -1 0 = 1",
                "belief " + m + " -1 1 = " + lower[m]));
        }
        Tale.tell("20 0 to 6", pair("belief -1 -1 0 = GONE-OUTSIDE", "belief 7 -1 0 = GONE-OUTSIDE", "belief 0 -1 0 = 1",
            "belief 6 -1 0 = 1", "belief 6 -1 1 = 1", "belief MIN -1 1 = GONE-OUTSIDE", "belief MAX -1 1 = GONE-OUTSIDE",
            "seen 0 3 = 1", "belief 5 -1 0 = 0", "belief 5 -1 1 = 1"));
    }

    /** "(0, if m is 0)": nobody is first then; that all SIGHTS are so can be. */
    private static void beliefOfNoGuests() {
        Tale.tell("20 m is 0", pair("belief 0 0 0 = 0", "belief 0 0 1 = 1", "belief 0 1 0 = 0", "belief 0 1 1 = 1",
            "belief 0 -1 0 = 1", "belief 0 -1 1 = 1", "belief 1 0 0 = 1", "belief 1 0 1 = 3", "belief 1 1 0 = 2",
            "belief 1 1 1 = 3", "seen 0 8 = 1", "belief 0 -1 0 = 0", "belief 0 -1 1 = 1", "belief 0 0 0 = 0",
            "belief 0 0 1 = 1", "belief 1 0 0 = 1", "belief 1 1 0 = 0", "belief 1 1 1 = 1"));
    }

    /** "each time each of them with OFTEN by all OFTEN together (whoever came already ..)": 1 and 9. */
    private static void beliefByOften() {
        Tale.tell("20 often 1 and 9", "guest 0 0 1 0 1 = 1", "belief 6 0 0 = 1", "belief 6 0 1 = 1",
            "guest 3 1 1 0 9 = 2", "belief 1 0 0 = 1", "belief 1 0 1 = 10", "belief 6 3 0 = 9", "belief 6 3 1 = 10",
            "seen 0 7 = 1", "belief 2 -1 1 = 100", "belief 2 0 1 = 100", "belief 2 3 0 = 0", "belief 3 -1 0 = 27",
            "belief 3 -1 1 = 1000", "belief 3 0 0 = 9", "belief 3 0 1 = 500", "belief 3 3 0 = 9", "belief 3 3 1 = 1000");
    }

    /** "(.. who finds nothing counts, too: nothing is used then)" */
    private static void whoFindsNothing() {
        Tale.tell("20 who finds nothing", "things 1 = 7", "guest 0 0 9 0 1 = 1", "guest 1 0 1 0 1 = 2", "seen 0 0 = 1",
            "belief 1 -1 0 = 1", "belief 1 -1 1 = 2", "belief 2 -1 0 = 3", "belief 2 -1 1 = 4", "belief 6 -1 0 = 63",
            "belief 6 -1 1 = 64", "belief 6 0 0 = 1", "belief 6 0 1 = 2", "belief 6 1 0 = 31", "belief 6 1 1 = 64",
            "thing 0 2 1 = 0", "belief 6 -1 0 = 0", "seen 0 9 = 1", "belief 6 -1 0 = 1", "belief 6 -1 1 = 1",
            "belief 6 1 0 = 1", "belief 6 1 1 = 2");
        Tale.tell("20 what he did not use is not the last", "things 3 = 7", "thing 2 2 1 = 0", "guest 2 0 9 2 1 = 1",
            "seen 0 0 = 1", "seen 1 0 = 2", "belief 1 -1 0 = 0", "belief 2 -1 0 = 1", "belief 6 -1 0 = 1");
    }

    /** "Fractions are told in lowest terms by part: 0 the upper, 1 the lower number" */
    private static void lowestTerms() {
        Tale.tell("20 lowest terms", "things 2 = 7", "guest 0 0 1 0 6 = 1", "guest 1 1 1 0 3 = 2", "belief 1 0 0 = 2",
            "belief 1 0 1 = 3", "belief 1 1 0 = 1", "belief 1 1 1 = 3", "seen 0 8 = 1", "belief 2 -1 0 = 4",
            "belief 2 -1 1 = 9", "belief 2 1 0 = 2", "belief 2 1 1 = 9", "seen 0 0 = 1", "belief 2 -1 0 = 0",
            "belief 2 -1 1 = 1", "belief 2 -1 2 = GONE-OUTSIDE", "belief 2 -1 -1 = GONE-OUTSIDE",
            "belief 2 -1 MIN = GONE-OUTSIDE", "belief 2 -1 MAX = GONE-OUTSIDE");
    }

    /** All OFTEN together are 36 at most: six times that is more than an int holds. */
    private static void greatNumbers() {
        Tale.tell("20 36 together", "guest 0 0 1 0 9 = 1", "guest 1 1 1 0 9 = 2", "guest 2 2 1 0 9 = 3",
            "guest 3 3 1 0 9 = 4", "belief 6 -1 0 = 1", "belief 6 -1 1 = 1", "belief 6 2 0 = 1", "belief 6 2 1 = 4",
            "seen 0 3 = 1", "belief 6 -1 0 = 1", "belief 6 -1 1 = 4096", "belief 6 0 1 = 4096", "belief 6 1 0 = 0",
            "seen 0 9 = 1", "belief 6 -1 0 = 729", "belief 6 -1 1 = 4096", "belief 6 3 0 = 243", "belief 6 3 1 = 4096");
        Tale.tell("20 35 together", "guest 0 0 1 0 9 = 1", "guest 1 1 1 0 9 = 2", "guest 2 2 1 0 9 = 3",
            "guest 3 3 1 0 8 = 4", "seen 3 3 = 1", "belief 6 -1 0 = 262144", "belief 6 -1 1 = 1838265625",
            "seen 3 9 = 1", "belief 6 -1 0 = 387420489", "belief 6 -1 1 = 1838265625", "belief 6 0 0 = 129140163",
            "belief 6 0 1 = 1838265625");
    }

    /** "refused with GONE and the refusal"; "UNKNOWN; OUTSIDE: m 0 to 6; STATE: nobody is there" */
    private static void beliefRefusals() {
        Tale.tell("20 nobody is there", "belief 0 -1 0 = GONE-STATE", "belief 0 -1 1 = GONE-STATE",
            "belief 6 -1 0 = GONE-STATE", "belief 7 -1 0 = GONE-OUTSIDE", "belief -1 -1 0 = GONE-OUTSIDE",
            "belief 0 -1 2 = GONE-OUTSIDE", "belief 0 -1 -1 = GONE-OUTSIDE", "belief 0 0 0 = GONE-UNKNOWN",
            "belief 0 -2 0 = GONE-UNKNOWN", "belief 7 0 2 = GONE-UNKNOWN", "guest 1 0 1 0 1 = 1", "belief 0 -1 0 = 1",
            "leave 1 = 0", "belief 0 -1 0 = GONE-STATE");
        Tale.tell("20 which guest", "guest 1 0 1 0 1 = 1", "guest 3 0 1 0 1 = 2", "belief 1 1 0 = 1",
            "belief 1 3 0 = 1", "belief 1 0 0 = GONE-UNKNOWN", "belief 1 2 0 = GONE-UNKNOWN", "belief 1 4 0 = GONE-UNKNOWN",
            "belief 1 -2 0 = GONE-UNKNOWN", "belief 1 33 0 = GONE-UNKNOWN", "belief 1 MIN 0 = GONE-UNKNOWN",
            "belief 1 MAX 0 = GONE-UNKNOWN", "belief 7 4 0 = GONE-UNKNOWN", "belief 1 4 2 = GONE-UNKNOWN",
            "belief 7 1 0 = GONE-OUTSIDE", "belief 1 1 2 = GONE-OUTSIDE", "belief 1 1 -1 = GONE-OUTSIDE",
            "belief -1 1 0 = GONE-OUTSIDE");
        SevenPlates x = new SevenPlates();
        c.due("20 GONE and UNKNOWN", x.belief(0, 0, 0), -1000000000000000001L);
        c.due("20 GONE and OUTSIDE", x.belief(7, -1, 0), -1000000000000000002L);
        c.due("20 GONE and STATE", x.belief(0, -1, 0), -1000000000000000003L);
    }
}
