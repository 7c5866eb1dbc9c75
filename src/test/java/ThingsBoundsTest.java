import java.util.ArrayList;
import java.util.List;

/**
 * Part 1 of the document and promises 1 to 8, sentence by sentence: the least and the greatest that is taken, the
 * next below and above. Tale looks behind each refused call, that nothing is changed.
 */
public final class ThingsBoundsTest {
    private static final String FORTY = ".".repeat(40);
    private static final Check c = new Check();

    public static void main(String[] args) {
        newObject();
        howManyThings();
        thingsThatThereAre();
        thingsAreAsAtFirst();
        whichThing();
        whatOfAThing();
        sizeOfAThing();
        laid();
        laidAnewIsCold();
        locked();
        left();
        leftByLaid();
        thingRefusals();
        whichGuest();
        sizeOfAGuest();
        hunger();
        habit();
        often();
        guestRefusals();
        howManyGuests();
        leave();
        signs();
        fortySigns();
        roomAgain();
        sayRefusals();
        wipe();
        faultPlaces();
        faultBySign();
        faultOfAThing();
        Tale.end();
        c.end();
    }

    /** "Seven THINGS, no GUESTS"; "none at first"; "7 at first"; "as its number at first"; "9 at first"; "not, at first". */
    private static void newObject() {
        List<String> tale = new ArrayList<>(List.of(
            "told 0 = 0", "told 1 = 7", "told 2 = 0", "told 3 = 0", "wipe = 0", "forget = 0", "fault = NONE",
            "restore 0 = STATE", "restore 1 = STATE"));
        for (int t = 0; t < 7; t++) {
            int[] due = {t, 9, 0, 9, 0, -6};
            for (int i = 0; i < 6; i++) tale.add("told " + (10 * (1 + t) + i) + " = " + due[i]);
        }
        for (int g = 0; g < 4; g++) {
            tale.add("eats " + g + " = UNKNOWN");
            tale.add("leave " + g + " = UNKNOWN");
        }
        tale.add("state 7 0 = UNKNOWN");
        Tale.tell("1 a new object", tale);
    }

    /** "THINGS 0 to n less 1 (n 1 to 7; 7 at first)"; "How many THINGS: which it was"; "OUTSIDE". */
    private static void howManyThings() {
        Tale.tell("2 n 1 to 7",
            "things 0 = OUTSIDE", "things 8 = OUTSIDE", "things -1 = OUTSIDE", "told 1 = 7",
            "things 1 = 7", "told 1 = 1", "things 0 = OUTSIDE", "things 8 = OUTSIDE", "things 1 = 1", "things 2 = 1",
            "things 6 = 2", "things 7 = 6", "things 7 = 7", "told 1 = 7",
            "things MIN = OUTSIDE", "things MAX = OUTSIDE", "things 257 = OUTSIDE", "things 65537 = OUTSIDE",
            "things -7 = OUTSIDE", "told 1 = 7");
    }

    /** "THINGS 0 to n less 1": thing n less 1 is there, thing n is not, for each call that names one. */
    private static void thingsThatThereAre() {
        for (int n = 1; n <= 7; n++) {
            int last = n - 1;
            Tale.tell("2 of " + n + " things the last, and the next",
                "things " + n + " = 7", "guest 0 0 1 0 1 = 1",
                "thing " + last + " 1 9 = 9", "thing " + n + " 1 9 = UNKNOWN",
                "behind " + last + " 0 = 9", "behind " + n + " 0 = UNKNOWN",
                "state " + last + " 0 = 9", "state " + n + " 0 = UNKNOWN",
                "seen " + last + " 9 = 1", "seen " + n + " 9 = UNKNOWN",
                "cup " + last + " 0 = 16", "cup " + n + " 0 = UNKNOWN",
                "lock " + last + " 0 = 1", "lock " + n + " 0 = UNKNOWN",
                "told " + 10 * n + " = " + last, "told " + 10 * (n + 1) + " = OUTSIDE",
                "thing -1 1 9 = UNKNOWN", "behind -1 0 = UNKNOWN", "state -1 0 = UNKNOWN", "seen -1 9 = UNKNOWN",
                "cup -1 0 = UNKNOWN", "lock -2 0 = UNKNOWN", "told 9 = OUTSIDE");
        }
    }

    /** "All THINGS are as at first, SIGHTS go (GUESTS, THE PAD stay)", also if there are as many as before. */
    private static void thingsAreAsAtFirst() {
        for (int n = 1; n <= 7; n++) {
            List<String> tale = new ArrayList<>(List.of(
                "guest 1 0 2 0 5 = 1", "pad B", "done = 1", "thing 0 0 9 = 0", "thing 0 2 1 = 0", "seen 0 3 = 1",
                "seen 6 3 = 2", "thing 6 1 2 = 9", "thing 6 0 0 = 6", "thing 6 2 1 = 0", "thing 6 3 1 = 2", "pad B0.",
                "told 13 = 7", "told 14 = 9", "things 0 = OUTSIDE", "things 8 = OUTSIDE",
                "things " + n + " = 7", "told 0 = 3", "told 2 = 2", "told 3 = 0", "forget = 0",
                "told 200 = 0", "told 201 = 2", "told 202 = 0", "told 203 = 5",
                "told 10 = 0", "told 11 = 9", "told 12 = 0", "told 13 = 9", "told 14 = 0", "told 15 = NONE",
                "judge 2 = 1", "things 7 = " + n));
            int[] due = {6, 9, 0, 9, 0, -6};
            for (int i = 0; i < 6; i++) tale.add("told " + (70 + i) + " = " + due[i]);
            Tale.tell("2 as at first, of " + n, tale);
        }
    }

    /** "UNKNOWN (there is no such THING ..)" */
    private static void whichThing() {
        Tale.tell("3 which thing",
            "things 3 = 7", "thing 0 0 5 = 0", "thing 2 0 5 = 2", "thing 3 0 5 = UNKNOWN", "thing -1 0 5 = UNKNOWN",
            "thing 6 0 5 = UNKNOWN", "thing 7 0 5 = UNKNOWN", "thing MIN 0 5 = UNKNOWN", "thing MAX 0 5 = UNKNOWN",
            "thing 32 0 5 = UNKNOWN", "thing 256 0 5 = UNKNOWN", "thing -32 0 5 = UNKNOWN");
    }

    /** "Of a THING: 0 SIZE, 1 LAID .., 2 LOCKED .., 3 LEFT" */
    private static void whatOfAThing() {
        Tale.tell("3 what 0 to 3",
            "thing 4 -1 0 = OUTSIDE", "thing 4 4 0 = OUTSIDE", "thing 4 5 0 = OUTSIDE", "thing 4 MIN 0 = OUTSIDE",
            "thing 4 MAX 0 = OUTSIDE", "thing 4 256 0 = OUTSIDE",
            "thing 4 3 1 = 9", "thing 4 2 1 = 0", "thing 4 1 1 = 9", "thing 4 0 1 = 4",
            "told 50 = 1", "told 51 = 1", "told 52 = 1", "told 53 = 1", "told 40 = 3", "told 41 = 9", "told 42 = 0");
    }

    /** "each of a SIZE (0 to 9; as its number at first)" */
    private static void sizeOfAThing() {
        for (int t = 0; t < 7; t++) {
            String size = "thing " + t + " 0 ";
            Tale.tell("3 size 0 to 9",
                size + "-1 = OUTSIDE", size + "10 = OUTSIDE", size + "0 = " + t, size + "9 = 0",
                size + "-1 = OUTSIDE", size + "10 = OUTSIDE", size + "MIN = OUTSIDE", size + "MAX = OUTSIDE",
                size + "256 = OUTSIDE", size + "1 = 9", size + "8 = 1", "told " + 10 * (1 + t) + " = 8");
        }
    }

    /** "laid with so much (LAID, 0 to 9; 9 at first)"; "1 LAID (so much is LEFT then ..)" */
    private static void laid() {
        for (int t = 0; t < 7; t++) {
            String laid = "thing " + t + " 1 ", left = "state " + t + " 0 = ";
            Tale.tell("3 laid 0 to 9",
                laid + "-1 = OUTSIDE", laid + "10 = OUTSIDE", left + "9", laid + "0 = 9", left + "0", laid + "9 = 0",
                left + "9", laid + "1 = 9", left + "1", laid + "8 = 1", left + "8", laid + "10 = OUTSIDE",
                laid + "-1 = OUTSIDE", laid + "MIN = OUTSIDE", laid + "MAX = OUTSIDE", laid + "256 = OUTSIDE",
                "told " + (10 * (1 + t) + 1) + " = 8");
        }
    }

    /** "1 LAID (so much is LEFT then, it is cold)"; SIZE, LOCKED, LEFT leave it as warm as it is. */
    private static void laidAnewIsCold() {
        Tale.tell("3 laid anew it is cold",
            "guest 0 2 1 0 1 = 1", "pad A", "done = 1", "state 2 1 = 9",
            "thing 2 0 2 = 2", "state 2 1 = 9", "thing 2 2 1 = 0", "state 2 1 = 9", "thing 2 3 0 = 8", "state 2 1 = 9",
            "thing 2 3 10 = OUTSIDE", "thing 2 1 10 = OUTSIDE", "state 2 1 = 9",
            "thing 2 1 9 = 9", "state 2 1 = 0", "state 2 0 = 9", "told 32 = 1");
    }

    /** "LOCKED or not (not, at first)"; "2 LOCKED (1, 0)" */
    private static void locked() {
        for (int t = 0; t < 7; t++) {
            String lock = "thing " + t + " 2 ", told = "told " + (10 * (1 + t) + 2) + " = ";
            Tale.tell("3 locked 1, 0",
                told + "0", lock + "-1 = OUTSIDE", lock + "2 = OUTSIDE", lock + "0 = 0", lock + "1 = 0", told + "1",
                lock + "2 = OUTSIDE", lock + "-1 = OUTSIDE", lock + "9 = OUTSIDE", lock + "MIN = OUTSIDE",
                lock + "MAX = OUTSIDE", lock + "256 = OUTSIDE", lock + "1 = 1", lock + "0 = 1", told + "0");
        }
    }

    /** "3 LEFT": 0 to 9, as LAID at first. */
    private static void left() {
        for (int t = 0; t < 7; t++) {
            String left = "thing " + t + " 3 ";
            Tale.tell("3 left 0 to 9",
                left + "-1 = OUTSIDE", left + "10 = OUTSIDE", left + "9 = 9", left + "0 = 9", left + "-1 = OUTSIDE",
                left + "10 = OUTSIDE", left + "9 = 0", left + "1 = 9", left + "8 = 1", left + "MIN = OUTSIDE",
                left + "MAX = OUTSIDE", left + "256 = OUTSIDE", "state " + t + " 0 = 8",
                "told " + (10 * (1 + t) + 1) + " = 9");
        }
    }

    /** "STATE: more LEFT than LAID": just as much is taken, one more is not; LAID stays. */
    private static void leftByLaid() {
        for (int v = 0; v <= 9; v++) {
            Tale.tell("3 no more left than laid, " + v,
                "thing 5 1 " + v + " = 9", "thing 5 3 0 = " + v,
                "thing 5 3 " + (v + 1) + " = " + (v < 9 ? "STATE" : "OUTSIDE"), "told 63 = 0", "thing 5 3 " + v + " = 0",
                "thing 5 3 " + (v + 1) + " = " + (v < 9 ? "STATE" : "OUTSIDE"),
                "thing 5 3 9 = " + (v < 9 ? "STATE" : "9"), "thing 5 3 10 = OUTSIDE", "thing 5 3 -1 = OUTSIDE",
                "told 61 = " + v, "told 63 = " + v);
        }
    }

    /** "the first of these that fits: UNKNOWN .., OUTSIDE .., STATE" */
    private static void thingRefusals() {
        Tale.tell("3 which refusal is the first",
            "things 2 = 7", "thing 1 1 4 = 9",
            "thing 2 4 10 = UNKNOWN", "thing 2 3 10 = UNKNOWN", "thing 2 3 5 = UNKNOWN", "thing -1 -1 -1 = UNKNOWN",
            "thing 1 4 5 = OUTSIDE", "thing 1 4 10 = OUTSIDE", "thing 1 3 10 = OUTSIDE", "thing 1 3 5 = STATE",
            "thing 1 3 4 = 4");
    }

    /** "GUESTS 0 to 3 (A to D)"; "UNKNOWN: the number" */
    private static void whichGuest() {
        Tale.tell("4 guests 0 to 3",
            "guest -1 5 5 1 5 = UNKNOWN", "guest 4 5 5 1 5 = UNKNOWN", "guest MIN 5 5 1 5 = UNKNOWN",
            "guest MAX 5 5 1 5 = UNKNOWN", "guest 32 5 5 1 5 = UNKNOWN", "guest -32 5 5 1 5 = UNKNOWN",
            "guest 256 5 5 1 5 = UNKNOWN", "told 2 = 0", "guest 0 5 5 1 5 = 1", "told 2 = 1", "guest 3 5 5 1 5 = 2",
            "told 2 = 9", "guest 4 5 5 1 5 = UNKNOWN", "guest -1 5 5 1 5 = UNKNOWN");
    }

    private static void guestNumber(String sentence, String ahead, String behind, int low, int high, int told) {
        for (int g = 0; g < 4; g++) {
            String call = "guest " + g + " " + ahead;
            String is = "told " + (100 * (1 + g) + told) + " = ";
            Tale.tell(sentence + ", guest " + g,
                call + (low - 1) + behind + " = OUTSIDE", call + (high + 1) + behind + " = OUTSIDE", "told 2 = 0",
                is + "OUTSIDE", call + low + behind + " = 1", is + low, call + (low - 1) + behind + " = OUTSIDE",
                call + (high + 1) + behind + " = OUTSIDE", is + low, call + high + behind + " = 1", is + high,
                call + (high + 1) + behind + " = OUTSIDE", call + "MIN" + behind + " = OUTSIDE",
                call + "MAX" + behind + " = OUTSIDE", call + "257" + behind + " = OUTSIDE",
                call + "-1" + behind + " = OUTSIDE", is + high, "told 2 = " + (1 << g));
        }
    }

    /** "SIZE (0 to 9)", of GUESTS. */
    private static void sizeOfAGuest() {
        guestNumber("4 size 0 to 9", "", " 5 1 5", 0, 9, 0);
    }

    /** "HUNGER (1 to 9)" */
    private static void hunger() {
        guestNumber("4 hunger 1 to 9", "5 ", " 1 5", 1, 9, 1);
    }

    /** "a HABIT: 0 .. 1 .. 2 .. 3" */
    private static void habit() {
        guestNumber("4 habit 0 to 3", "5 5 ", " 5", 0, 3, 2);
    }

    /** "OFTEN (1 to 9 ..)" */
    private static void often() {
        guestNumber("4 often 1 to 9", "5 5 1 ", "", 1, 9, 3);
    }

    /** UNKNOWN is ahead of OUTSIDE; one number that is not as told is enough. */
    private static void guestRefusals() {
        Tale.tell("4 which refusal is the first",
            "guest 2 5 5 1 5 = 1", "guest 4 10 10 4 10 = UNKNOWN", "guest -1 -1 0 -1 0 = UNKNOWN",
            "guest 4 5 0 1 5 = UNKNOWN", "guest 2 10 10 4 10 = OUTSIDE", "guest 2 9 9 3 10 = OUTSIDE",
            "guest 2 9 9 4 9 = OUTSIDE", "guest 2 9 10 3 9 = OUTSIDE", "guest 2 10 9 3 9 = OUTSIDE",
            "guest 2 -1 1 0 1 = OUTSIDE", "guest 2 0 0 0 1 = OUTSIDE", "guest 2 0 1 -1 1 = OUTSIDE",
            "guest 2 0 1 0 0 = OUTSIDE", "told 300 = 5", "told 301 = 5", "told 302 = 1", "told 303 = 5",
            "guest 2 9 9 3 9 = 1", "guest 2 0 1 0 1 = 1", "told 300 = 0", "told 301 = 1", "told 302 = 0", "told 303 = 1");
    }

    /** "A GUEST is there (or otherwise): how many are": none to all four, and no more by coming again. */
    private static void howManyGuests() {
        Tale.tell("4 how many are",
            "guest 3 1 1 1 1 = 1", "guest 3 2 2 2 2 = 1", "guest 1 1 1 1 1 = 2", "guest 0 1 1 1 1 = 3",
            "guest 2 1 1 1 1 = 4", "told 2 = 15", "guest 2 9 9 3 9 = 4", "guest 4 1 1 1 1 = UNKNOWN", "told 400 = 2",
            "leave 0 = 3", "guest 0 4 4 0 4 = 4", "told 100 = 4");
    }

    /** "A GUEST is no more: how many are. UNKNOWN: there was none." */
    private static void leave() {
        Tale.tell("5 leave",
            "leave 0 = UNKNOWN", "leave 3 = UNKNOWN", "leave -1 = UNKNOWN", "leave 4 = UNKNOWN",
            "guest 0 1 1 1 1 = 1", "guest 1 1 1 1 1 = 2", "guest 2 1 1 1 1 = 3", "guest 3 1 1 1 1 = 4",
            "leave -1 = UNKNOWN", "leave 4 = UNKNOWN", "leave 32 = UNKNOWN", "leave 35 = UNKNOWN", "leave -32 = UNKNOWN",
            "leave MIN = UNKNOWN", "leave MAX = UNKNOWN", "leave 256 = UNKNOWN",
            "leave 3 = 3", "leave 3 = UNKNOWN", "told 2 = 7", "told 400 = OUTSIDE", "eats 3 = UNKNOWN",
            "leave 0 = 2", "leave 0 = UNKNOWN", "told 2 = 6", "leave 1 = 1", "leave 2 = 0", "leave 2 = UNKNOWN",
            "told 2 = 0");
    }

    /** "signs (codes 33 to 126)" */
    private static void signs() {
        Tale.tell("6 codes 33 to 126",
            "say 32 = OUTSIDE", "say 127 = OUTSIDE", "say 33 = 1", "say 126 = 2", "say 34 = 3", "say 125 = 4",
            "say 32 = OUTSIDE", "say 127 = OUTSIDE", "say 0 = OUTSIDE", "say -1 = OUTSIDE", "say 10 = OUTSIDE",
            "say 128 = OUTSIDE", "say 321 = OUTSIDE", "say 65601 = OUTSIDE", "say -191 = OUTSIDE", "say MIN = OUTSIDE",
            "say MAX = OUTSIDE", "told 0 = 4");
        for (int code = -200; code <= 400; code++) {
            boolean taken = code >= 33 && code <= 126;
            c.due("6 say(" + code + ")", new SevenPlates().say(code), taken ? 1 : -2);
        }
    }

    /** "a PAD of up to 40 signs"; "A sign more: how many"; "FULL" */
    private static void fortySigns() {
        List<String> tale = new ArrayList<>();
        for (int i = 1; i <= 39; i++) tale.add("say 46 = " + i);
        tale.addAll(List.of("told 0 = 39", "say 48 = 40", "told 0 = 40", "say 46 = FULL", "say 65 = FULL",
            "say 33 = FULL", "say 126 = FULL", "told 0 = 40", "fault = NONE", "used 39 = NONE", "used 40 = OUTSIDE"));
        Tale.tell("6 up to 40 signs", tale);
    }

    /** A full pad takes signs again when it was wiped, or its evening is done. */
    private static void roomAgain() {
        Tale.tell("6 room again", "pad " + FORTY, "say 46 = FULL", "wipe = 40", "say 46 = 1", "told 0 = 1");
        Tale.tell("6 room again", "pad " + FORTY, "say 46 = FULL", "done = 40", "say 46 = 1", "told 0 = 1");
        Tale.tell("6 images and things leave no room", "pad " + FORTY, "image 0 = 1", "restore 0 = 1", "things 3 = 7",
            "forget = 0", "say 46 = FULL", "told 0 = 40");
    }

    /** OUTSIDE is ahead of FULL; a sign that can not stand there is taken; it "changes what fault() tells". */
    private static void sayRefusals() {
        Tale.tell("6 which refusal is the first", "pad " + FORTY, "say 32 = OUTSIDE", "say 127 = OUTSIDE",
            "say 33 = FULL", "fault = NONE");
        Tale.tell("6 a sign changes what fault tells", "pad A.6", "fault = NONE", "say 69 = 4", "fault = 3",
            "say 33 = 5", "fault = 3");
    }

    /** "Signs go: how many there were." */
    private static void wipe() {
        Tale.tell("7 wipe", "wipe = 0", "wipe = 0", "pad !", "fault = 0", "wipe = 1", "fault = NONE", "wipe = 0",
            "pad " + FORTY.substring(1), "wipe = 39", "pad " + FORTY, "wipe = 40", "wipe = 0", "told 0 = 0",
            "judge 2 = 0", "used 0 = OUTSIDE");
    }

    /** "THE FAULT: the place (from 0 on) of the first sign that can not stand there"; "NONE" */
    private static void faultPlaces() {
        Tale.tell("8 of an empty pad", "fault = NONE");
        for (int place = 0; place < 40; place++) {
            StringBuilder signs = new StringBuilder(FORTY);
            signs.setCharAt(place, 'E');
            SevenPlates x = new SevenPlates();
            Check.tell(x, signs.toString());
            c.due("8 a fault at " + place, x.fault(), place);
            Check.tell(x, signs.substring(0, place));
            c.due("8 none ahead of " + place, x.fault(), -6);
        }
        Tale.tell("8 the first of several", "pad ..E.E", "fault = 2", "pad EEE", "fault = 0",
            "pad " + FORTY.substring(2) + "!~", "fault = 38", "pad " + FORTY.substring(1) + "~", "fault = 39",
            "pad " + FORTY, "fault = NONE");
    }

    /** "A to D .., . .., a digit 0 to 6": no other sign can stand anywhere, and who is not there is no fault. */
    private static void faultBySign() {
        String can = ".0123456ABCD";
        for (char sign = 33; sign <= 126; sign++) {
            SevenPlates x = new SevenPlates();
            x.say(sign);
            c.due("8 " + sign, x.fault(), can.indexOf(sign) >= 0 ? -6 : 0);
        }
        Tale.tell("8 signs beside those that can", "pad @", "fault = 0", "pad A", "fault = NONE", "pad D", "fault = NONE",
            "pad E", "fault = 0", "pad a", "fault = 0", "pad /", "fault = 0", "pad 0", "fault = NONE", "pad 6",
            "fault = NONE", "pad 7", "fault = 0", "pad 9", "fault = 0", "pad :", "fault = 0", "pad -", "fault = 0",
            "pad .", "fault = NONE");
        Tale.tell("8 who is not there is no fault", "pad D", "fault = NONE", "judge 0 = 0", "judge 1 = 1");
    }

    /** "(a digit of a THING that there is not, too)": the last one can be filled, the next is a fault. */
    private static void faultOfAThing() {
        for (int n = 1; n <= 7; n++) {
            Tale.tell("8 of " + n + " things", "things " + n + " = 7", "pad ." + (n - 1), "fault = NONE",
                "pad ." + n, "fault = 1", "judge 0 = NO", "pad .0" + (n - 1) + n, "fault = 3");
        }
        Tale.tell("8 by the things that there are now", "pad 6", "fault = NONE", "image 0 = 1", "things 6 = 7",
            "fault = 0", "restore 0 = 1", "fault = NONE", "things 6 = 7", "things 7 = 6", "fault = NONE");
    }
}
