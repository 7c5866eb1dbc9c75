/** Promises 15 to 20: sights, rows, beliefs. */
public final class SightsTest {
    private static final long GONE = -1000000000000000000L;
    private static final Check c = new Check();

    public static void main(String[] args) {
        seen();
        forget();
        rows();
        sureAndMaybe();
        firstRow();
        rowsOfOthers();
        rowsRefused();
        cup();
        look();
        belief();
        beliefOfNothing();
        beliefRefused();
        c.end();
    }

    /** Two things; A takes 1 of thing 0 (while it has some), B 2 of thing 1, C 3 of thing 0. */
    private static SevenPlates three() {
        SevenPlates x = new SevenPlates();
        x.things(2);
        x.guest(0, 0, 1, 0, 1);
        x.guest(1, 1, 2, 0, 2);
        x.guest(2, 0, 3, 0, 3);
        return x;
    }

    private static void seen() {
        SevenPlates x = new SevenPlates();
        x.things(3);
        c.due("15 one", x.seen(2, 0), 1);
        c.due("15 two", x.seen(0, 9), 2);
        c.due("15 otherwise", x.seen(2, 4), 2);
        c.due("15 the sight", x.told(35), 4);
        c.due("15 sights", x.told(3), 5);
        c.due("15 thing 3", x.seen(3, 1), -1);
        c.due("15 thing -1", x.seen(-1, 1), -1);
        c.due("15 left 10", x.seen(0, 10), -2);
        c.due("15 left -1", x.seen(0, -1), -2);
        c.due("15 unknown ahead of outside", x.seen(3, 10), -1);
        c.due("15 nothing changed", x.told(15), 9);
        x.thing(1, 1, 2);
        c.due("15 more than laid can be told", x.seen(1, 9), 3);
    }

    private static void forget() {
        SevenPlates x = new SevenPlates();
        c.due("16 none", x.forget(), 0);
        for (int t = 0; t < 7; t++) x.seen(t, 9);
        c.due("16 seven", x.forget(), 7);
        c.due("16 none then", x.forget(), 0);
        c.due("16 no sight", x.told(15), -6);
        c.due("16 bits", x.told(3), 0);
    }

    private static void rows() {
        SevenPlates x = three();
        c.due("17 of none", x.rows(0, 0), 1);
        c.due("17 of none: fewest", x.rows(0, 1), 0);
        c.due("17 no sight: 1 and 3 and 9", x.rows(2, 0), 13);
        // of 0 seen 6: C, or AAA, with Bs between (of 1 nothing is seen)
        x.seen(0, 6);
        c.due("17 of 1: C", x.rows(1, 0), 1);
        c.due("17 of 2: C, BC, CB", x.rows(2, 0), 3);
        c.due("17 of 3: and AAA, BBC, BCB, CBB", x.rows(3, 0), 7);
        c.due("17 fewest", x.rows(3, 1), 1);
        x.seen(1, 7);
        c.due("17 of 1: none", x.rows(1, 0), 0);
        c.due("17 of 1: fewest", x.rows(1, 1), -6);
        c.due("17 of 4: BC, CB, and four with AAAB", x.rows(4, 0), 6);
        c.due("17 fewest of these", x.rows(4, 1), 2);
        x.seen(0, 9);
        x.seen(1, 9);
        c.due("17 nobody was there", x.rows(6, 0), 1);
        c.due("17 fewest", x.rows(6, 1), 0);
        Check.tell(x, "C");
        x.done();
        x.seen(0, 6);
        c.due("17 from what is left now on", x.rows(6, 0), 1);

        // each must find something to use
        x.forget();
        x.thing(0, 1, 1);
        x.thing(1, 2, 1);
        c.due("17 none, or just one can come", x.rows(6, 0), 4);
        x.seen(0, 0);
        c.due("17 just A, B or C", x.rows(6, 0), 3);
    }

    private static void sureAndMaybe() {
        SevenPlates x = three();
        x.seen(0, 6);
        c.due("17 sure of 1: C", x.rows(1, 2), 4);
        c.due("17 maybe of 1: C", x.rows(1, 3), 4);
        c.due("17 sure of 3: none", x.rows(3, 2), 0);
        c.due("17 maybe of 3: all", x.rows(3, 3), 7);
        c.due("17 sure of 2: C", x.rows(2, 2), 4);
        c.due("17 maybe of 2: B, C", x.rows(2, 3), 6);
        x.seen(1, 7);
        c.due("17 sure of 4: B", x.rows(4, 2), 2);
        c.due("17 sure of none", x.rows(1, 2), 0);
        c.due("17 maybe of none", x.rows(1, 3), 0);
        c.due("17 sure of the empty row", x.rows(0, 2), 0);
    }

    private static void firstRow() {
        SevenPlates x = three();
        x.seen(0, 6);
        x.seen(1, 5);
        // the fewest are BBC, BCB, CBB
        c.due("17 first", x.rows(6, 4), 1);
        c.due("17 second", x.rows(6, 5), 1);
        c.due("17 third", x.rows(6, 6), 2);
        c.due("17 no fourth", x.rows(6, 7), -6);
        c.due("17 no sixth", x.rows(6, 9), -6);
        c.due("17 none fits", x.rows(2, 4), -6);
        x.leave(2);
        // six of A, all at thing 0
        x.seen(0, 3);
        x.seen(1, 9);
        c.due("17 a row of six", x.rows(6, 1), 6);
        for (int place = 0; place < 6; place++) c.due("17 place " + place, x.rows(6, 4 + place), 0);
    }

    private static void rowsOfOthers() {
        SevenPlates x = new SevenPlates();
        x.things(3);
        x.guest(1, 0, 1, 2, 1);
        x.guest(3, 2, 3, 2, 1);
        // both take what is next: of three things the guests at places 0, 1, 2 (and 3, 4, 5) use 0, 1, 2
        c.due("17 A is not there", x.rows(3, 0), 15);
        c.due("17 nor C", x.rows(3, 3), 10);
        x.seen(2, 6);
        c.due("17 the third was D: four, and with more behind him", x.rows(3, 0), 4);
        c.due("17 with more behind him", x.rows(5, 0), 4 + 8 + 16);
        c.due("17 B, the first by guests", x.rows(5, 4), 1);
        c.due("17 B", x.rows(5, 5), 1);
        c.due("17 D", x.rows(5, 6), 3);
        c.due("17 sure", x.rows(5, 2), 8);
        c.due("18 who was third", x.cup(2, 5), 8);
        c.due("18 who was first", x.cup(0, 5), 10);
        x.seen(1, 8);
        c.due("17 the second was B", x.rows(3, 0), 2);
        c.due("20 the second was B, the third D", x.belief(3, -1, 1), 4);
    }

    private static void rowsRefused() {
        SevenPlates x = three();
        c.due("17 m 7", x.rows(7, 0), -2);
        c.due("17 m -1", x.rows(-1, 0), -2);
        c.due("17 what 10", x.rows(0, 10), -2);
        c.due("17 what -1", x.rows(0, -1), -2);
        c.due("17 great", x.rows(Integer.MAX_VALUE, 0), -2);
        c.due("17 m 6", x.rows(6, 0), 1 + 3 + 9 + 27 + 81 + 243 + 729);
        x.guest(3, 0, 1, 1, 1);
        c.due("17 of four", x.rows(6, 0), 5461);
    }

    private static void cup() {
        SevenPlates x = three();
        c.due("18 of none", x.cup(0, 0), 16);
        c.due("18 of 1: A, C, nobody (B is at 1)", x.cup(0, 1), 21);
        c.due("18 of 1: B, nobody", x.cup(1, 1), 18);
        x.seen(0, 6);
        c.due("18 C", x.cup(0, 2), 4);
        c.due("18 A or C", x.cup(0, 3), 5);
        x.seen(1, 2);
        c.due("18 no row fits", x.cup(0, 2), 0);
        c.due("18 thing 2", x.cup(2, 0), -1);
        c.due("18 thing -1", x.cup(-1, 0), -1);
        c.due("18 m 7", x.cup(0, 7), -2);
        c.due("18 m -1", x.cup(0, -1), -2);
        c.due("18 unknown ahead of outside", x.cup(2, 7), -1);
    }

    private static void look() {
        SevenPlates x = three();
        // rows of 1 at most: none, A, B, C; of 0 is left 9 8 9 6, of 1 9 9 7 9
        c.due("19 thing 0", x.look(1, 0), 0);
        c.due("19 leaves two", x.look(1, 1), 2);
        c.due("19 the least of equal ones", x.look(0, 0), 0);
        c.due("19 one row", x.look(0, 1), 1);
        x.seen(0, 9);
        // none, B
        c.due("19 thing 1", x.look(1, 0), 1);
        c.due("19 leaves one", x.look(1, 1), 1);
        x.seen(1, 9);
        c.due("19 all are seen", x.look(1, 0), -6);
        c.due("19 all are seen", x.look(1, 1), -6);
        x.forget();
        x.seen(0, 0);
        c.due("19 no rows fit", x.look(1, 0), -6);
        c.due("19 no rows fit", x.look(1, 1), -6);
        c.due("19 m 7", x.look(7, 0), -2);
        c.due("19 m -1", x.look(-1, 0), -2);
        c.due("19 what 2", x.look(1, 2), -2);
        c.due("19 what -1", x.look(1, -1), -2);
        x.forget();
        x.guest(0, 1, 1, 0, 1);
        x.guest(2, 1, 3, 0, 1);
        // none, A, B, C; of 1 is left 9 8 7 6
        c.due("19 thing 1 tells all", x.look(1, 0), 1);
        c.due("19 one is left", x.look(1, 1), 1);
        x.thing(1, 1, 1);
        // none, A, B, C; of 1 is left 1 0 0 0
        c.due("19 no thing tells them", x.look(1, 1), 3);
        c.due("19 but 1 tells more than 0", x.look(1, 0), 1);
    }

    private static void fraction(String what, SevenPlates x, int m, int guest, long upper, long lower) {
        c.due(what + ", upper", x.belief(m, guest, 0), upper);
        c.due(what + ", lower", x.belief(m, guest, 1), lower);
    }

    private static void belief() {
        SevenPlates x = three();
        fraction("20 none comes", x, 0, -1, 1, 1);
        fraction("20 none is first", x, 0, 0, 0, 1);
        fraction("20 no sights", x, 6, -1, 1, 1);
        fraction("20 first by often", x, 3, 1, 1, 3);
        fraction("20 two of six", x, 1, 1, 1, 3);
        x.seen(0, 6);
        fraction("20 none comes, other is left", x, 0, -1, 0, 1);
        fraction("20 C comes", x, 1, -1, 1, 2);
        fraction("20 C comes, and is first", x, 1, 2, 1, 2);
        fraction("20 A is not", x, 1, 0, 0, 1);
        // BC, CB: (2 3 and 3 2) by 36
        fraction("20 of two", x, 2, -1, 1, 3);
        fraction("20 of two, B first", x, 2, 1, 1, 6);
        // AAA, BBC in three ways: (1 and 3 times 12) by 216
        fraction("20 of three", x, 3, -1, 37, 216);
        fraction("20 of three, A first", x, 3, 0, 1, 216);
        x.guest(0, 0, 1, 0, 9);
        x.guest(1, 0, 1, 0, 9);
        x.guest(2, 0, 1, 0, 9);
        x.guest(3, 1, 1, 0, 8);
        x.seen(0, 3);
        fraction("20 great numbers", x, 6, -1, 387420489L, 1838265625L);
    }

    private static void beliefOfNothing() {
        SevenPlates x = three();
        x.thing(0, 1, 2);
        x.thing(1, 2, 1);
        x.seen(0, 0);
        // only thing 0 with 2: AA, or B or C at any place; A first: A and then any
        fraction("20 who finds nothing counts, too", x, 2, -1, 1, 1);
        fraction("20 of one", x, 1, -1, 5, 6);
        fraction("20 A first", x, 2, 0, 1, 6);
        x.thing(0, 3, 0);
        fraction("20 nothing to find", x, 4, 2, 1, 2);
        x.seen(0, 1);
        fraction("20 nor can it be more", x, 4, 2, 0, 1);
    }

    private static void beliefRefused() {
        SevenPlates x = new SevenPlates();
        c.due("20 nobody is there", x.belief(1, -1, 0), GONE - 3);
        c.due("20 nobody is there", x.belief(1, -1, 1), GONE - 3);
        c.due("20 outside ahead of state", x.belief(7, -1, 0), GONE - 2);
        c.due("20 unknown ahead of state", x.belief(1, 0, 0), GONE - 1);
        x.guest(1, 0, 1, 0, 1);
        c.due("20 no such guest", x.belief(1, 0, 0), GONE - 1);
        c.due("20 no such number", x.belief(1, 4, 0), GONE - 1);
        c.due("20 nor this", x.belief(1, -2, 0), GONE - 1);
        c.due("20 unknown ahead of outside", x.belief(7, 0, 2), GONE - 1);
        c.due("20 m 7", x.belief(7, 1, 0), GONE - 2);
        c.due("20 m -1", x.belief(-1, 1, 0), GONE - 2);
        c.due("20 part 2", x.belief(1, 1, 2), GONE - 2);
        c.due("20 part -1", x.belief(1, 1, -1), GONE - 2);
        c.due("20 fine", x.belief(1, 1, 0), 1);
    }
}
