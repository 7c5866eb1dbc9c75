/** Counts answers that are not the one that is due, and ends a test by them. */
final class Check {
    private int wrong;
    private int calls;

    void due(String call, long got, long want) {
        calls++;
        if (got == want) return;
        wrong++;
        System.out.println(call + " answered " + got + ", due is " + want);
    }

    void holds(String what, boolean so) {
        due(what, so ? 1 : 0, 1);
    }

    /** Says a whole text, sign by sign. */
    static void tell(SevenPlates x, String text) {
        x.wipe();
        for (char sign : text.toCharArray()) x.say(sign);
    }

    void end() {
        System.out.println(calls + " answers, " + wrong + " of them not as due");
        if (wrong != 0) System.exit(1);
    }
}
