import java.util.ArrayList;
import java.util.List;

/**
 * What part 1 says of HABITS, of USE and of hours, part 2, and promises 9 to 14, sentence by sentence, at their
 * edges. Tale looks behind each refused call and each question, that nothing is changed.
 */
public final class EveningsBoundsTest {
    private static final String FORTY = ".".repeat(40);

    public static void main(String[] args) {
        nearest();
        nearestOfSeveral();
        fullest();
        nextGoesRound();
        nextAtFirst();
        nextPassesBy();
        nextByAnybody();
        firstWithEnough();
        elseTheFirst();
        passedBy();
        useLeavesNoneAtLeast();
        useWarms();
        hours();
        filledAgain();
        reasons();
        judgeWhat();
        judgeFirstPart();
        judgeRefusals();
        cameAndEaten();
        used();
        usedRefusals();
        behindWhat();
        firstAndLast();
        behindRefusals();
        doneCounts();
        doneKeeps();
        doneRefusals();
        state();
        eats();
        Tale.end();
    }

    private static String pad(String signs) {
        return "pad " + signs;
    }

    /** "0 takes the THING whose SIZE is nearest to his": as far as 9 away, below or above. */
    private static void nearest() {
        for (int size = 0; size <= 9; size++) {
            Tale.tell("14 nearest to " + size, "guest 0 " + size + " 1 0 1 = 1", "eats 0 = " + Math.min(size, 6));
        }
        Tale.tell("14 9 away", "things 1 = 7", "thing 0 0 9 = 0", "guest 0 0 1 0 1 = 1", "eats 0 = 0",
            "thing 0 0 0 = 9", "guest 0 9 1 0 1 = 1", "eats 0 = 0");
        Tale.tell("14 8 away is nearer than 9", "things 2 = 7", "thing 0 0 9 = 0", "thing 1 0 8 = 1",
            "guest 0 0 1 0 1 = 1", "eats 0 = 1", "thing 0 0 0 = 9", "thing 1 0 1 = 8", "guest 0 9 1 0 1 = 1",
            "eats 0 = 1");
        Tale.tell("14 just his own size", "things 3 = 7", "thing 0 0 4 = 0", "thing 1 0 6 = 1", "thing 2 0 5 = 2",
            "guest 0 5 1 0 1 = 1", "eats 0 = 2");
    }

    /** "of several the least", of habit 0: one below and one above are as near. */
    private static void nearestOfSeveral() {
        Tale.tell("14 of several nearest the least", "things 3 = 7", "thing 0 0 9 = 0", "thing 1 0 3 = 1",
            "thing 2 0 5 = 2", "guest 0 4 1 0 1 = 1", "eats 0 = 1", "thing 1 0 5 = 3", "thing 2 0 3 = 5", "eats 0 = 1",
            "thing 2 0 4 = 3", "eats 0 = 2", "thing 1 0 4 = 5", "eats 0 = 1", "thing 0 0 4 = 9", "eats 0 = 0");
    }

    /** "1 that of which most is LEFT"; "of several the least" */
    private static void fullest() {
        Tale.tell("14 of which most is left", "guest 1 0 1 1 1 = 1", "eats 1 = 0", "thing 0 3 8 = 9", "eats 1 = 1",
            "thing 6 3 8 = 9", "eats 1 = 1", "thing 1 3 8 = 9", "thing 2 3 8 = 9", "thing 3 3 8 = 9", "thing 4 3 8 = 9",
            "thing 5 3 8 = 9", "eats 1 = 0", "thing 6 3 9 = 8", "eats 1 = 6", "thing 5 3 9 = 8", "eats 1 = 5",
            "thing 5 1 5 = 9", "eats 1 = 6");
        Tale.tell("14 1 is more than none", "things 2 = 7", "thing 0 3 0 = 9", "thing 1 3 1 = 9", "guest 1 0 9 1 1 = 1",
            "eats 1 = 1", "thing 0 3 1 = 0", "eats 1 = 0");
    }

    /** "2 the one next behind that which was used last (..; round again to 0; ..; perhaps the same)" */
    private static void nextGoesRound() {
        for (int n = 1; n <= 7; n++) {
            List<String> tale = new ArrayList<>(List.of("things " + n + " = 7", "guest 2 0 1 2 1 = 1",
                pad("C".repeat(2 * n + 1))));
            for (int part = 0; part <= 2 * n; part++) tale.add("used " + part + " = " + part % n);
            Tale.tell("10 round again to 0, of " + n, tale);
        }
        Tale.tell("10 perhaps the same", "things 1 = 7", "guest 2 0 4 2 1 = 1", pad("CCC"), "used 0 = 0", "used 1 = 0",
            "used 2 = 0", "behind 0 0 = 0", pad("CCCC"), "judge 0 = 3", "judge 1 = 2");
        for (int only = 0; only < 7; only++) {
            List<String> tale = new ArrayList<>(List.of("guest 2 0 1 2 1 = 1"));
            for (int t = 0; t < 7; t++) if (t != only) tale.add("thing " + t + " 2 1 = 0");
            tale.addAll(List.of(pad("CCC"), "used 0 = " + only, "used 1 = " + only, "used 2 = " + only));
            Tale.tell("10 the same, the only one", tale);
        }
    }

    /** "0, if none was yet"; "in this EVENING" */
    private static void nextAtFirst() {
        Tale.tell("10 none was yet", "guest 2 9 1 2 1 = 1", "eats 2 = 0", pad("..3C"), "used 3 = 0", "done = 4",
            "eats 2 = 0", pad("C"), "used 0 = 0", "thing 0 2 1 = 0", "eats 2 = 1", "used 0 = 1");
    }

    /** "THINGS that are LOCKED, or of which nothing is LEFT, are passed by", at the end and at the beginning. */
    private static void nextPassesBy() {
        Tale.tell("10 next passes by", "guest 2 0 1 2 1 = 1", "guest 0 5 1 0 1 = 2", "thing 6 2 1 = 0",
            "thing 0 3 0 = 9", pad("AC"), "used 0 = 5", "used 1 = 1", "thing 6 2 0 = 1", "used 1 = 6",
            "thing 6 3 0 = 9", "used 1 = 1", "thing 1 2 1 = 0", "used 1 = 2", pad("A0C"), "used 2 = 0",
            "thing 0 2 1 = 0", "used 2 = 2");
        Tale.tell("10 what he emptied himself is passed by", "things 2 = 7", "guest 2 0 9 2 1 = 1", pad("CC"),
            "used 0 = 0", "used 1 = 1", "thing 0 1 1 = 9", pad("C0C"), "used 2 = 1", pad("CC1C"), "used 3 = 1",
            pad("CC0C"), "used 3 = 0");
    }

    /** "(by anybody ..)"; "nobody used it by that" */
    private static void nextByAnybody() {
        Tale.tell("10 by anybody", "guest 2 0 1 2 1 = 1", "guest 3 4 1 0 1 = 2", "guest 1 6 1 0 1 = 3", pad("DC"),
            "used 1 = 5", pad("BC"), "used 1 = 0", pad("DBC"), "used 2 = 0", pad("BDC"), "used 2 = 5", pad("D2.C"),
            "used 3 = 5", pad("CDC"), "used 2 = 5");
    }

    /** "3 the first of which HUNGER or more is LEFT": just as much will do, one less will not. */
    private static void firstWithEnough() {
        for (int hunger = 1; hunger <= 9; hunger++) {
            List<String> tale = new ArrayList<>(List.of("things 3 = 7", "guest 3 0 " + hunger + " 3 1 = 1", "eats 3 = 0",
                "thing 0 3 " + hunger + " = 9", "eats 3 = 0", "thing 0 3 " + (hunger - 1) + " = " + hunger, "eats 3 = 1",
                "thing 1 3 " + (hunger - 1) + " = 9", "eats 3 = 2"));
            if (hunger < 9) {
                tale.addAll(List.of("thing 1 3 " + (hunger + 1) + " = " + (hunger - 1), "eats 3 = 1"));
            }
            Tale.tell("14 " + hunger + " or more", tale);
        }
    }

    /** "else the first": of those that are not passed by. */
    private static void elseTheFirst() {
        Tale.tell("14 else the first", "things 3 = 7", "guest 3 0 9 3 1 = 1", "thing 0 3 1 = 9", "thing 1 3 8 = 9",
            "thing 2 3 8 = 9", "eats 3 = 0", "thing 0 3 0 = 1", "eats 3 = 1", "thing 1 2 1 = 0", "eats 3 = 2",
            "thing 2 3 0 = 8", "eats 3 = NONE", "thing 0 3 1 = 0", "eats 3 = 0");
    }

    /** "THINGS that are LOCKED, or of which nothing is LEFT, are passed by", by each habit: 1 is enough, 0 is not. */
    private static void passedBy() {
        for (int habit = 0; habit < 4; habit++) {
            String eats = "eats " + habit + " = ";
            Tale.tell("14 passed by, habit " + habit, "things 2 = 7", "guest " + habit + " 0 1 " + habit + " 1 = 1",
                eats + "0", "thing 0 2 1 = 0", eats + "1", "thing 1 3 1 = 9", eats + "1", "thing 1 3 0 = 1",
                eats + "NONE", "thing 0 2 0 = 1", eats + "0", "thing 0 3 0 = 9", eats + "NONE", "thing 1 3 1 = 0",
                eats + "1", "thing 1 2 1 = 0", eats + "NONE", "thing 0 1 0 = 9", eats + "NONE", "thing 0 1 1 = 0",
                eats + "0");
        }
    }

    /** "HUNGER less is LEFT (0 at least)" */
    private static void useLeavesNoneAtLeast() {
        for (int hunger = 1; hunger <= 9; hunger++) {
            List<String> tale = new ArrayList<>(List.of("things 1 = 7", "guest 0 0 " + hunger + " 0 1 = 1", pad("A")));
            for (int left = 1; left <= 9; left++) {
                tale.add("thing 0 1 " + left + " = " + (left == 1 ? 9 : left - 1));
                tale.add("behind 0 0 = " + Math.max(0, left - hunger));
                tale.add("judge 3 = " + Math.min(left, hunger));
            }
            Tale.tell("11 hunger " + hunger + ", 0 at least", tale);
        }
    }

    /** "it is 9 WARM": not more by two who use it, and 9 again whatever it was. */
    private static void useWarms() {
        Tale.tell("11 9 warm", "guest 0 0 1 0 1 = 1", pad("A"), "behind 0 1 = 9", pad("AA"), "behind 0 1 = 9",
            pad("A.A"), "behind 0 1 = 9", "done = 3", "state 0 1 = 9", pad("A"), "behind 0 1 = 9", "behind 1 1 = 0");
    }

    /** "An hour: each is a degree less WARM (0 at least)", a LOCKED one, too. */
    private static void hours() {
        for (int hours = 0; hours <= 12; hours++) {
            Tale.tell("11 " + hours + " hours", "guest 0 3 1 0 1 = 1", "guest 1 5 1 0 1 = 2", pad("B.A" + ".".repeat(hours)),
                "behind 3 1 = " + Math.max(0, 9 - hours), "behind 5 1 = " + Math.max(0, 8 - hours), "behind 0 1 = 0",
                "done = " + (3 + hours), "state 3 1 = " + Math.max(0, 9 - hours));
        }
        Tale.tell("11 hours go on from now", "guest 0 3 1 0 1 = 1", pad("A"), "done = 1", "thing 3 2 1 = 0",
            pad("........"), "behind 3 1 = 1", pad("........."), "behind 3 1 = 0", pad(".........."), "behind 3 1 = 0",
            pad(FORTY), "behind 3 1 = 0", "done = 40", "state 3 1 = 0", pad("."), "behind 3 1 = 0");
        for (int t = 0; t < 7; t++) {
            Tale.tell("11 hours of thing " + t, "guest 0 " + t + " 1 0 1 = 1", pad("A"), "done = 1", "state " + t + " 1 = 9",
                pad(".."), "behind " + t + " 1 = 7", "done = 2", "state " + t + " 1 = 7", "behind " + t + " 1 = 7");
        }
    }

    /** "that THING is filled again, a LOCKED one, too, as LAID, and as WARM as it is; nobody used it by that" */
    private static void filledAgain() {
        Tale.tell("11 filled again", "thing 6 1 5 = 9", "thing 6 3 0 = 5", "thing 6 2 1 = 0", pad("6"),
            "behind 6 0 = 5", "behind 6 1 = 0", "behind 6 2 = NONE", "behind 6 3 = NONE", "used 0 = NONE", "judge 2 = 0",
            "judge 3 = 0", "done = 1", "state 6 0 = 5", "told 72 = 1", "told 71 = 5");
        Tale.tell("11 filled with nothing, with all", "thing 0 1 0 = 9", "thing 1 3 0 = 9", pad("01"), "behind 0 0 = 0",
            "behind 1 0 = 9", "guest 0 0 9 0 1 = 1", pad("A1A"), "behind 1 0 = 0", "behind 1 1 = 9", "judge 3 = 18",
            pad("1A.1"), "behind 1 0 = 9", "behind 1 1 = 8", "behind 1 2 = 0", "behind 1 3 = 0", pad("11"), "behind 1 0 = 9");
        Tale.tell("11 full already", pad("3"), "behind 3 0 = 9", "hide = 0");
    }

    /** "A PART can not be for the least of these reasons: 1 there is no such GUEST; 2 there is nothing that he takes." */
    private static void reasons() {
        Tale.tell("9 why", "things 1 = 7", "guest 0 0 9 0 1 = 1", pad("B"), "judge 0 = 0", "judge 1 = 1", pad("AA"),
            "judge 0 = 1", "judge 1 = 2", pad("AB"), "judge 0 = 1", "judge 1 = 1", "thing 0 2 1 = 0", pad("A"),
            "judge 0 = 0", "judge 1 = 2", pad("B"), "judge 1 = 1", pad("0."), "judge 0 = NONE", "judge 1 = NONE",
            "thing 0 2 0 = 1", "leave 0 = 0", pad("A"), "judge 1 = 1");
        for (int g = 0; g < 4; g++) {
            Tale.tell("9 each guest", pad("" + (char) ('A' + g)), "judge 0 = 0", "judge 1 = 1",
                "guest " + g + " 0 1 " + g + " 1 = 1", "judge 0 = NONE", "judge 1 = NONE", "judge 2 = 1");
        }
    }

    /** "the PART (what = 0), why (1), how many came (2), what was eaten (3) .. OUTSIDE" */
    private static void judgeWhat() {
        Tale.tell("9 what 0 to 3", "judge -1 = OUTSIDE", "judge 4 = OUTSIDE", "judge MIN = OUTSIDE", "judge MAX = OUTSIDE",
            "judge 256 = OUTSIDE", "judge 0 = NONE", "judge 1 = NONE", "judge 2 = 0", "judge 3 = 0",
            "guest 0 0 5 0 1 = 1", pad("A.AA"), "judge 0 = NONE", "judge 1 = NONE", "judge 2 = 3", "judge 3 = 14",
            "judge -1 = OUTSIDE", "judge 4 = OUTSIDE");
    }

    /** "the first PART (from 0 on) that can not be": at 0, at 39, and only the first. */
    private static void judgeFirstPart() {
        Tale.tell("9 the first part", pad("A" + FORTY.substring(1)), "judge 0 = 0", pad(FORTY.substring(1) + "A"),
            "judge 0 = 39", "judge 1 = 1", pad(".A.B"), "judge 0 = 1", pad(FORTY), "judge 0 = NONE",
            "things 1 = 7", "guest 0 0 9 0 1 = 1", pad("AAB"), "judge 0 = 1", "judge 1 = 2", pad("BAA"), "judge 0 = 0",
            "judge 1 = 1");
    }

    /** "OUTSIDE; NO: there is a FAULT; STATE (2, 3): some PART can not be." */
    private static void judgeRefusals() {
        Tale.tell("9 which refusal is the first", pad("A"), "judge 0 = 0", "judge 1 = 1", "judge 2 = STATE",
            "judge 3 = STATE", "judge 4 = OUTSIDE", "judge -1 = OUTSIDE", pad("AE"), "judge 0 = NO", "judge 1 = NO",
            "judge 2 = NO", "judge 3 = NO", "judge 4 = OUTSIDE", "judge -1 = OUTSIDE", pad("7"), "judge 0 = NO",
            "judge 2 = NO", "judge 4 = OUTSIDE", pad("6"), "judge 0 = NONE", "judge 2 = 0");
    }

    /** "how many came; how much was eaten": none, and 40. */
    private static void cameAndEaten() {
        Tale.tell("9 none came", pad(FORTY), "judge 2 = 0", "judge 3 = 0");
        Tale.tell("9 40 came", "guest 3 0 1 1 1 = 1", pad("D".repeat(40)), "judge 2 = 40", "judge 3 = 40");
        Tale.tell("9 all is eaten", "guest 3 0 9 1 1 = 1", pad("DDDDDDD"), "judge 2 = 7", "judge 3 = 63", "say 68 = 8",
            "judge 2 = STATE", "judge 0 = 7");
        Tale.tell("9 what is filled is eaten again", "things 1 = 7", "guest 3 0 9 1 1 = 1", pad("D0".repeat(20)),
            "judge 2 = 20", "judge 3 = 180");
    }

    /** "which THING a PART's GUEST took (NONE: the PART is none's)"; "OUTSIDE (behind that): there is no such PART" */
    private static void used() {
        Tale.tell("10 of an empty pad", "used 0 = OUTSIDE", "used -1 = OUTSIDE", "used 40 = OUTSIDE");
        Tale.tell("10 the first and the last part", "guest 0 6 1 0 1 = 1", pad("A"), "used 0 = 6", "used 1 = OUTSIDE",
            "used -1 = OUTSIDE", pad("A" + FORTY.substring(2) + "A"), "used 0 = 6", "used 1 = NONE", "used 38 = NONE",
            "used 39 = 6", "used 40 = OUTSIDE", "used 41 = OUTSIDE", "used -1 = OUTSIDE", "used MIN = OUTSIDE",
            "used MAX = OUTSIDE", pad("A"), "used 1 = OUTSIDE", "used 39 = OUTSIDE", "wipe = 1", "used 0 = OUTSIDE");
        Tale.tell("10 none's", pad(".0.6"), "used 0 = NONE", "used 1 = NONE", "used 3 = NONE", "used 4 = OUTSIDE");
    }

    /** "NO, STATE, as of judge(2); OUTSIDE (behind that)": another order than else. */
    private static void usedRefusals() {
        Tale.tell("10 which refusal is the first", pad(".A"), "used 0 = STATE", "used 1 = STATE", "used 2 = STATE",
            "used -1 = STATE", "used MAX = STATE", pad(".AE"), "used 0 = NO", "used 3 = NO", "used -1 = NO",
            "used MIN = NO", pad("E"), "used 0 = NO", "used 1 = NO", pad("."), "used 0 = NONE", "used 1 = OUTSIDE");
    }

    /** "LEFT (what = 0), WARM (1), who was first (2), last (3)" */
    private static void behindWhat() {
        Tale.tell("11 what 0 to 3", "behind 0 -1 = OUTSIDE", "behind 0 4 = OUTSIDE", "behind 0 MIN = OUTSIDE",
            "behind 0 MAX = OUTSIDE", "behind 0 0 = 9", "behind 0 1 = 0", "behind 0 2 = NONE", "behind 0 3 = NONE",
            "behind 6 0 = 9", "behind 6 3 = NONE", "behind 7 0 = UNKNOWN", "behind -1 0 = UNKNOWN",
            "behind MIN 0 = UNKNOWN", "behind MAX 0 = UNKNOWN", "behind 256 0 = UNKNOWN");
    }

    /** "who used it first, last (in this EVENING; NONE)" */
    private static void firstAndLast() {
        Tale.tell("11 first and last", "things 2 = 7", "guest 0 0 1 0 1 = 1", "guest 3 0 2 0 1 = 2", pad("A"),
            "behind 0 2 = 0", "behind 0 3 = 0", "behind 1 2 = NONE", "behind 1 3 = NONE", pad("DA"), "behind 0 2 = 3",
            "behind 0 3 = 0", pad("ADAD"), "behind 0 2 = 0", "behind 0 3 = 3", "done = 4", "behind 0 2 = NONE",
            "behind 0 3 = NONE", pad("D"), "behind 0 2 = 3", "behind 0 3 = 3", "behind 1 2 = NONE", "wipe = 1",
            "behind 0 2 = NONE", pad("D0A"), "behind 0 2 = 3", "behind 0 3 = 0");
    }

    /** "UNKNOWN; OUTSIDE; NO, STATE, likewise." */
    private static void behindRefusals() {
        Tale.tell("11 which refusal is the first", "things 2 = 7", pad("A"), "behind 0 0 = STATE", "behind 1 3 = STATE",
            "behind 2 0 = UNKNOWN", "behind 0 4 = OUTSIDE", "behind 2 4 = UNKNOWN", pad("A2"), "behind 0 0 = NO",
            "behind 1 3 = NO", "behind 0 4 = OUTSIDE", "behind 2 0 = UNKNOWN", "behind 2 4 = UNKNOWN", pad(""),
            "behind 2 4 = UNKNOWN", "behind -1 -1 = UNKNOWN", "behind 1 4 = OUTSIDE", "behind 1 0 = 9");
    }

    /** "The EVENING is DONE (the PAD is empty then): PARTS." */
    private static void doneCounts() {
        Tale.tell("12 no parts", "done = 0", "done = 0", "told 0 = 0");
        Tale.tell("12 one part", pad("."), "done = 1", "told 0 = 0", "done = 0");
        Tale.tell("12 39 and 40 parts", pad(FORTY.substring(1)), "done = 39", "told 0 = 0", pad(FORTY), "done = 40",
            "told 0 = 0", "fault = NONE", "used 0 = OUTSIDE", "done = 0");
        Tale.tell("12 all parts count", "guest 0 0 1 0 1 = 1", pad("A.0A"), "done = 4");
    }

    /** "DONE: it is so then (first, last are not kept)." */
    private static void doneKeeps() {
        Tale.tell("12 it is so then", "things 2 = 7", "guest 0 0 4 0 1 = 1", "guest 2 0 1 2 1 = 2", "seen 0 3 = 1",
            "thing 1 1 6 = 9", "thing 1 3 2 = 6", pad("A.1C"), "behind 0 0 = 5", "behind 1 0 = 5", "done = 4",
            "state 0 0 = 5", "state 0 1 = 8", "state 1 0 = 5", "state 1 1 = 9", "told 11 = 9", "told 21 = 6",
            "told 15 = 3", "told 3 = 1", "told 2 = 5", "behind 0 2 = NONE", "behind 1 3 = NONE", "eats 2 = 0",
            pad("AAA"), "judge 0 = NONE", "done = 3", "state 0 0 = 0", "state 1 0 = 1", pad("AA"), "done = STATE");
    }

    /** "NO, STATE, likewise": nothing is done, the PAD stays. */
    private static void doneRefusals() {
        Tale.tell("12 which refusal is the first", "guest 0 0 1 0 1 = 1", pad("A.B"), "done = STATE", "told 0 = 3",
            "state 0 0 = 9", "state 0 1 = 0", pad("A.BE"), "done = NO", "told 0 = 4", pad("A.E"), "done = NO",
            "state 0 0 = 9", pad("A7"), "done = NO", pad("A6"), "done = 2", "state 0 0 = 8");
    }

    /** "Of a THING now: LEFT (what = 0), WARM (1). UNKNOWN; OUTSIDE." */
    private static void state() {
        Tale.tell("13 what 0, 1", "things 4 = 7", "state 0 0 = 9", "state 3 1 = 0", "state 0 -1 = OUTSIDE",
            "state 0 2 = OUTSIDE", "state 0 MIN = OUTSIDE", "state 0 MAX = OUTSIDE", "state 4 0 = UNKNOWN",
            "state -1 0 = UNKNOWN", "state 6 0 = UNKNOWN", "state 7 0 = UNKNOWN", "state MIN 0 = UNKNOWN",
            "state MAX 0 = UNKNOWN", "state 4 2 = UNKNOWN", "state -1 -1 = UNKNOWN", "thing 3 3 0 = 9", "state 3 0 = 0",
            "guest 0 0 9 0 1 = 1", pad("A"), "state 0 0 = 9", "state 0 1 = 0", "done = 1", "state 0 0 = 0",
            "state 0 1 = 9", pad("E"), "state 0 0 = 0");
    }

    /** "EATS: what a GUEST would take now (none having been used); NONE." "UNKNOWN." */
    private static void eats() {
        Tale.tell("14 which guest", "eats 0 = UNKNOWN", "eats 3 = UNKNOWN", "guest 0 6 1 0 1 = 1", "guest 3 6 1 2 1 = 2",
            "eats 0 = 6", "eats 1 = UNKNOWN", "eats 2 = UNKNOWN", "eats 3 = 0", "eats 4 = UNKNOWN", "eats -1 = UNKNOWN",
            "eats 32 = UNKNOWN", "eats 35 = UNKNOWN", "eats -32 = UNKNOWN", "eats MIN = UNKNOWN", "eats MAX = UNKNOWN",
            "eats 256 = UNKNOWN", "leave 0 = 1", "eats 0 = UNKNOWN");
        Tale.tell("14 now, none having been used", "guest 2 0 9 2 1 = 1", pad("C"), "eats 2 = 0", "used 0 = 0",
            "eats 2 = 0", pad("E"), "eats 2 = 0", pad("CCC"), "done = 3", "eats 2 = 3", "things 1 = 7", "eats 2 = 0",
            pad("C"), "done = 1", "eats 2 = NONE");
    }
}
