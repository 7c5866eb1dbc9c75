/** Promises 21 to 29: who is alike, tables, locks, years, images, and what is told. */
public final class TablesTest {
    private static final Check c = new Check();

    public static void main(String[] args) {
        alike();
        lay();
        layTwo();
        layByAnyNumber();
        layThree();
        hide();
        trace();
        lock();
        year();
        yearRefused();
        images();
        imagesRestored();
        told();
        constants();
        c.end();
    }

    private static void alike() {
        SevenPlates x = new SevenPlates();
        c.due("21 nobody", x.alike(-1), 0);
        x.guest(1, 0, 5, 0, 1);
        c.due("21 one alone", x.alike(-1), 0);
        x.guest(3, 9, 5, 1, 9);
        c.due("21 both take 5 of 0", x.alike(-1), 1);
        c.due("21 these", x.alike(0), 13);
        c.due("21 no more", x.alike(1), -6);
        x.guest(0, 0, 6, 2, 1);
        c.due("21 6 is not 5", x.alike(-1), 1);
        x.thing(0, 1, 5);
        // B takes 5 of 5, A 6 of 5, D the fullest, which is 1
        c.due("21 who takes the rest leaves the same", x.alike(0), 1);
        c.due("21 one two", x.alike(-1), 1);
        x.thing(0, 2, 1);
        for (int t = 2; t < 7; t++) x.thing(t, 2, 1);
        x.thing(1, 3, 2);
        x.guest(2, 0, 1, 3, 1);
        // thing 1 has 2: A, B, D take all of it, C but 1
        c.due("21 three twos", x.alike(-1), 3);
        c.due("21 AB", x.alike(0), 1);
        c.due("21 AD", x.alike(1), 3);
        c.due("21 BD", x.alike(2), 13);
        c.due("21 none", x.alike(3), -6);
        x.thing(1, 3, 0);
        c.due("21 who finds nothing leaves all as it is", x.alike(-1), 6);
        int[] all = {1, 2, 3, 12, 13, 23};
        for (int i = 0; i < 6; i++) c.due("21 two " + i, x.alike(i), all[i]);
        c.due("21 none", x.alike(6), -6);
        c.due("21 -2", x.alike(-2), -6);
        c.due("21 least", x.alike(Integer.MIN_VALUE), -6);
        c.due("21 greatest", x.alike(Integer.MAX_VALUE), -6);
    }

    private static void laid(String what, SevenPlates x, int many, int which) {
        c.due(what + ": how many", x.lay(0), many);
        c.due(what + ": which", x.lay(1), which);
    }

    private static void lay() {
        SevenPlates x = new SevenPlates();
        x.things(3);
        laid("22 nobody", x, 0, 0);
        x.guest(0, 2, 3, 0, 1);
        laid("22 one", x, 0, 0);
        x.guest(1, 2, 3, 0, 1);
        laid("22 two of one kind are never told apart", x, -6, -6);
        x.guest(1, 2, 3, 1, 1);
        laid("22 A takes 2, B 0", x, 0, 0);
        x.guest(1, 2, 5, 0, 1);
        x.thing(2, 1, 2);
        // both take the 2 that are left of 2; with more (or none) of it they differ
        laid("22 thing 2 anew", x, 1, 4);
        c.due("22 nothing is laid by asking", x.told(31), 2);
        x.thing(2, 1, 0);
        // 0 and 1 have 9: A 3, B 5 of 1
        laid("22 nothing left of 2", x, 0, 0);
        x.thing(1, 1, 3);
        laid("22 thing 1 anew", x, 1, 2);
        x.thing(1, 2, 1);
        x.thing(0, 1, 1);
        laid("22 1 is locked: thing 0 anew", x, 1, 1);
        x.thing(0, 2, 1);
        laid("22 0 is locked, too: thing 2 anew", x, 1, 4);
        x.thing(2, 2, 1);
        laid("22 all are locked", x, -6, -6);
        c.due("22 what 2", x.lay(2), -2);
        c.due("22 what -1", x.lay(-1), -2);
    }

    /** A, B (nearest, size 0, hungers 1, 2) and C, D (nearest, size 1, hungers 1, 2): each two needs its thing. */
    private static void layTwo() {
        SevenPlates x = new SevenPlates();
        x.things(2);
        x.guest(0, 0, 1, 0, 1);
        x.guest(1, 0, 2, 0, 1);
        x.guest(2, 1, 1, 0, 1);
        x.guest(3, 1, 2, 0, 1);
        x.thing(0, 1, 1);
        x.thing(1, 1, 1);
        laid("22 both anew", x, 2, 3);
        x.things(7);
        x.guest(0, 2, 1, 0, 1);
        x.guest(1, 2, 2, 0, 1);
        x.guest(2, 5, 1, 0, 1);
        x.guest(3, 5, 2, 0, 1);
        x.thing(2, 1, 1);
        x.thing(5, 1, 1);
        laid("22 2 and 5 anew", x, 2, 36);
        x.thing(5, 2, 1);
        // C, D take 4 then, and of 2 just 1 is left
        laid("22 5 is locked, 4 tells C, D apart", x, 1, 4);
        for (int t = 0; t < 7; t++) {
            x.thing(t, 2, 0);
            x.thing(t, 1, 1);
        }
        laid("22 all have 1 left", x, 2, 36);
        x.thing(2, 2, 1);
        // A, B take 1 then
        laid("22 2 is locked", x, 2, 34);
        x.guest(0, 2, 1, 0, 1);
        x.guest(1, 2, 1, 0, 1);
        laid("22 A is as B", x, -6, -6);
    }

    private static void layByAnyNumber() {
        SevenPlates x = new SevenPlates();
        x.things(2);
        for (int t = 0; t < 2; t++) x.thing(t, 1, 8);
        x.guest(0, 0, 8, 0, 1);
        x.guest(1, 0, 9, 0, 1);
        laid("22 by 9 alone", x, 1, 1);
        x.guest(2, 1, 8, 0, 1);
        x.guest(3, 1, 9, 0, 1);
        laid("22 by 9 and 9 alone", x, 2, 3);

        // A and B take all of 0, which lies between them, unless nothing is left of it
        x.things(4);
        x.thing(0, 0, 5);
        x.thing(1, 0, 3);
        x.thing(2, 0, 8);
        x.thing(3, 0, 0);
        x.guest(0, 4, 9, 0, 1);
        x.guest(1, 6, 9, 0, 1);
        x.leave(2);
        x.leave(3);
        laid("22 by 0 alone", x, 1, 1);
        x.thing(3, 1, 8);
        x.guest(2, 0, 8, 0, 1);
        x.guest(3, 0, 9, 0, 1);
        laid("22 by 0 and 9", x, 2, 9);
    }

    /** 0 must be empty (else A and B take as much of it), 1 have 7 (for C and D), 2 have something (for A). */
    private static void layThree() {
        SevenPlates x = new SevenPlates();
        x.things(3);
        x.thing(1, 0, 3);
        x.thing(2, 0, 1);
        x.thing(0, 1, 2);
        x.thing(1, 1, 2);
        x.thing(2, 1, 0);
        x.guest(0, 0, 4, 0, 1);
        x.guest(1, 0, 4, 3, 1);
        x.guest(2, 0, 8, 2, 1);
        x.guest(3, 0, 6, 2, 1);
        laid("22 three are too many", x, -6, -6);
        x.thing(2, 1, 1);
        laid("22 two will do", x, 2, 3);
    }

    private static SevenPlates pair() {
        SevenPlates x = new SevenPlates();
        x.things(3);
        x.guest(0, 0, 2, 0, 1);
        x.guest(1, 9, 4, 1, 3);
        return x;
    }

    private static void hide() {
        SevenPlates x = pair();
        c.due("23 of an empty pad", x.hide(), 0);
        Check.tell(x, "A");
        c.due("23 thing 0", x.hide(), 1);
        Check.tell(x, "A0");
        c.due("23 filled again", x.hide(), 0);
        x.thing(2, 3, 1);
        Check.tell(x, "A02..");
        c.due("23 more than there is now", x.hide(), 4);
        Check.tell(x, "AB");
        c.due("23 two things", x.hide(), 3);
        x.things(7);
        x.guest(2, 0, 1, 2, 1);
        Check.tell(x, "CCCCCCC");
        c.due("23 all seven", x.hide(), 127);
        x.leave(2);
        x.things(3);
        Check.tell(x, "E");
        c.due("23 no", x.hide(), -5);
        Check.tell(x, "C");
        c.due("23 state", x.hide(), -3);
        Check.tell(x, "CE");
        c.due("23 no ahead of state", x.hide(), -5);
    }

    private static void trace() {
        SevenPlates x = pair();
        c.due("24 of an empty pad", x.trace(), 0);
        Check.tell(x, "A.A");
        c.due("24 one of B leaves as much as two of A", x.trace(), 1);
        Check.tell(x, "A.A.A");
        c.due("24 A and B", x.trace(), 2);
        Check.tell(x, "A0");
        c.due("24 nobody, then", x.trace(), 0);
        Check.tell(x, "AA0A");
        c.due("24 one", x.trace(), 1);
        x.thing(0, 3, 8);
        Check.tell(x, "0");
        c.due("24 more than there is now", x.trace(), -6);
        x.thing(0, 3, 9);
        // B first takes 0: alone at 1 he can not have been
        Check.tell(x, "AB0");
        c.due("24 no row leaves that", x.trace(), -6);
        x.thing(1, 2, 1);
        x.thing(2, 2, 1);
        Check.tell(x, "AA");
        c.due("24 one of B", x.trace(), 1);
        Check.tell(x, "AAAA");
        c.due("24 two of B", x.trace(), 2);
        Check.tell(x, "AAAAA");
        c.due("24 to the last", x.trace(), 3);
        x.seen(0, 1);
        c.due("24 sights do not matter", x.trace(), 3);
        x.things(7);
        x.guest(0, 0, 1, 2, 1);
        x.leave(1);
        Check.tell(x, "AAAAAA");
        c.due("24 six", x.trace(), 6);
        Check.tell(x, "AAAAAAA");
        c.due("24 seven are too many", x.trace(), -6);
        Check.tell(x, "7");
        c.due("24 no", x.trace(), -5);
        Check.tell(x, "B");
        c.due("24 state", x.trace(), -3);
        Check.tell(x, "B7");
        c.due("24 no ahead of state", x.trace(), -5);
    }

    private static void lock() {
        SevenPlates x = new SevenPlates();
        x.things(2);
        c.due("25 nobody, none", x.lock(-1, 0), 1);
        c.due("25 nobody, one", x.lock(-1, 1), 0);
        x.guest(0, 0, 1, 0, 1);
        x.guest(1, 1, 2, 0, 1);
        // by m: of 0 k less, of 1 twice m less k
        c.due("25 of one", x.lock(-1, 1), 2);
        c.due("25 of two", x.lock(-1, 2), 3);
        c.due("25 of four", x.lock(-1, 4), 5);
        // with 1 locked all take 0: 9 less 2 to 4
        c.due("25 1 is locked, of two", x.lock(1, 2), 3);
        c.due("25 1 is locked, of one", x.lock(1, 1), 2);
        c.due("25 nothing is locked by asking", x.told(22), 0);
        x.thing(1, 2, 1);
        c.due("25 as it is", x.lock(-1, 2), 3);
        c.due("25 locked already", x.lock(1, 2), 3);
        c.due("25 both", x.lock(0, 1), 0);
        x.thing(0, 3, 0);
        c.due("25 what is locked stays so", x.lock(1, 1), 0);
        x.thing(0, 3, 9);
        c.due("25 both, none comes", x.lock(0, 0), 1);
        x.thing(0, 1, 2);
        // AA: 0, AB: 0, BA can not be
        c.due("25 each can use something", x.lock(-1, 2), 1);
        c.due("25 three can not come", x.lock(-1, 3), 0);
        c.due("25 thing 2", x.lock(2, 0), -1);
        c.due("25 thing -2", x.lock(-2, 0), -1);
        c.due("25 m 6", x.lock(0, 6), -2);
        c.due("25 m -1", x.lock(0, -1), -2);
        c.due("25 unknown ahead of outside", x.lock(2, 6), -1);
        x.things(7);
        for (int g = 0; g < 4; g++) x.guest(g, g, 1, 0, 1);
        // five ones over four things: 8 over 3
        c.due("25 of five, four guests", x.lock(-1, 5), 56);
        c.due("25 0 is locked: A takes 1 as B", x.lock(0, 5), 21);
        for (int g = 0; g < 4; g++) x.guest(g, 0, 1 + g, 2, 1);
        // who takes what is next, by four hungers: each of five things tells who was there
        c.due("25 as many as there are rows", x.lock(-1, 5), 1024);
        c.due("25 and again", x.lock(6, 5), 1024);
        c.due("25 of four", x.lock(3, 4), 256);
        x.things(2);
        x.thing(0, 3, 1);
        x.guest(0, 0, 9, 0, 1);
        x.guest(1, 1, 9, 0, 1);
        x.leave(2);
        x.leave(3);
        c.due("25 none and 9, or 1 and none", x.lock(-1, 1), 2);
    }

    private static void year() {
        SevenPlates x = new SevenPlates();
        c.due("26 nobody: eaten", x.year(0, 60, 0), 0);
        c.due("26 nobody: used", x.year(0, 60, 1), 0);
        c.due("26 nobody: all as it is", x.year(0, 60, 2), 60);
        // from 0: 74, 5624, 28652 (guests C, A, A), then 51790, 17641, 12409 (C, B, B)
        x.things(1);
        x.guest(0, 0, 1, 0, 1);
        c.due("26 eaten", x.year(0, 1, 0), 2);
        c.due("26 used", x.year(0, 1, 1), 2);
        c.due("26 not as it is", x.year(0, 1, 2), 0);
        c.due("26 the second evening goes without", x.year(0, 2, 0), 2);
        c.due("26 and leaves all as it is", x.year(0, 2, 2), 1);
        x.guest(2, 0, 9, 0, 1);
        c.due("26 C takes all, then C again", x.year(0, 2, 0), 18);
        c.due("26 who finds nothing does not use", x.year(0, 2, 1), 2);
        c.due("26 each from what is left now", x.state(0, 0), 9);
        x.thing(0, 2, 1);
        c.due("26 locked", x.year(0, 2, 0), 0);
        c.due("26 locked", x.year(0, 2, 2), 2);
        x.things(2);
        x.guest(0, 0, 1, 2, 1);
        x.guest(2, 0, 9, 1, 1);
        // C: 0, A: 1, A: 1; then C: 0, and B is none
        c.due("26 next behind the last of this evening", x.year(0, 2, 0), 20);
        c.due("26 thing 0", x.year(0, 2, 1), 2);
        x.leave(2);
        // A: 0, A: 1; then none
        c.due("26 of thing 0 once", x.year(0, 2, 1), 1);
        c.due("26 eaten", x.year(0, 2, 0), 2);
    }

    private static void yearRefused() {
        SevenPlates x = new SevenPlates();
        c.due("26 seed -1", x.year(-1, 1, 0), -2);
        c.due("26 seed 10000", x.year(10000, 1, 0), -2);
        c.due("26 seed 9999", x.year(9999, 1, 0), 0);
        c.due("26 m 0", x.year(0, 0, 0), -2);
        c.due("26 m 61", x.year(0, 61, 0), -2);
        c.due("26 what 3", x.year(0, 1, 3), -2);
        c.due("26 what -1", x.year(0, 1, -1), -2);
    }

    private static SevenPlates laidTable() {
        SevenPlates x = new SevenPlates();
        x.things(5);
        x.guest(1, 2, 3, 0, 5);
        x.guest(2, 6, 7, 1, 9);
        x.thing(3, 0, 8);
        x.thing(3, 1, 6);
        x.thing(4, 2, 1);
        Check.tell(x, "B.");
        x.done();
        x.seen(0, 7);
        x.say('B');
        return x;
    }

    private static void images() {
        int[] before = picture(laidTable());
        SevenPlates x = laidTable();
        c.due("28 was not kept", x.restore(0), -3);
        c.due("27 kept", x.image(1), 1);
        c.due("28 the other was not", x.restore(0), -3);
        same("27 nothing changes", x, before);
        c.due("27 image(2)", x.image(2), -2);
        c.due("27 image(-1)", x.image(-1), -2);
        c.due("28 restore(2)", x.restore(2), -2);
        c.due("28 restore(-1)", x.restore(-1), -2);
    }

    private static void imagesRestored() {
        int[] before = picture(laidTable());
        SevenPlates x = laidTable();
        x.image(1);
        x.image(0);
        x.things(7);
        x.leave(1);
        x.guest(2, 1, 1, 2, 1);
        x.guest(3, 1, 1, 1, 1);
        x.seen(6, 1);
        Check.tell(x, "CDC");
        int[] other = picture(x);
        c.due("27 another", x.image(0), 1);
        c.due("28 restored", x.restore(1), 1);
        before[0] = 3;
        same("28 as it was, but for the pad", x, before);
        c.due("28 the pad is what it is", x.wipe(), 3);
        x.thing(0, 1, 0);
        x.forget();
        x.leave(2);
        c.due("28 again", x.restore(1), 1);
        before[0] = 0;
        same("28 an image stays", x, before);
        c.due("28 the other, kept anew", x.restore(0), 1);
        other[0] = 0;
        same("28 the other", x, other);
    }

    /** All that is told, from 0 to 76 and of all guests. */
    private static int[] picture(SevenPlates x) {
        int[] all = new int[77 + 16];
        for (int what = 0; what < 77; what++) all[what] = x.told(what);
        for (int i = 0; i < 16; i++) all[77 + i] = x.told(100 * (1 + i / 4) + i % 4);
        return all;
    }

    private static void same(String what, SevenPlates x, int[] due) {
        int[] got = picture(x);
        for (int i = 0; i < due.length; i++) c.due(what + ", " + i, got[i], due[i]);
    }

    private static void told() {
        SevenPlates x = new SevenPlates();
        x.things(2);
        x.guest(0, 1, 2, 3, 4);
        x.guest(3, 5, 6, 2, 8);
        x.thing(1, 0, 7);
        x.thing(1, 1, 8);
        x.thing(1, 2, 1);
        x.thing(1, 3, 5);
        x.seen(1, 0);
        Check.tell(x, "A.");
        x.done();
        Check.tell(x, "A!..");
        int[] due = {4, 2, 9, 2};
        for (int what = 0; what < 4; what++) c.due("29 told(" + what + ")", x.told(what), due[what]);
        int[][] things = {{0, 9, 0, 7, 8, -6}, {7, 8, 1, 5, 0, 0}};
        for (int t = 0; t < 2; t++) {
            for (int i = 0; i < 6; i++) c.due("29 thing " + t + ", " + i, x.told(10 * (1 + t) + i), things[t][i]);
        }
        int[][] guests = {{1, 2, 3, 4}, {-2, -2, -2, -2}, {-2, -2, -2, -2}, {5, 6, 2, 8}};
        for (int g = 0; g < 4; g++) {
            for (int i = 0; i < 4; i++) c.due("29 guest " + g + ", " + i, x.told(100 * (1 + g) + i), guests[g][i]);
        }
        int[] outside = {-1, 4, 9, 16, 19, 26, 30, 70, 75, 80, 99, 104, 110, 199, 404, 500, 1000,
            Integer.MAX_VALUE, Integer.MIN_VALUE};
        for (int what : outside) c.due("29 told(" + what + ")", x.told(what), -2);
    }

    private static void constants() {
        c.due("UNKNOWN", SevenPlates.UNKNOWN, -1);
        c.due("OUTSIDE", SevenPlates.OUTSIDE, -2);
        c.due("STATE", SevenPlates.STATE, -3);
        c.due("FULL", SevenPlates.FULL, -4);
        c.due("NO", SevenPlates.NO, -5);
        c.due("NONE", SevenPlates.NONE, -6);
        c.due("GONE", SevenPlates.GONE, -1000000000000000000L);
    }
}
