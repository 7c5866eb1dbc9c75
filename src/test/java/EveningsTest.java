/** Promises 9 to 14: evenings, and what a guest takes. */
public final class EveningsTest {
    private static final Check c = new Check();

    public static void main(String[] args) {
        judge();
        judgeRefused();
        used();
        behind();
        filledAgain();
        done();
        state();
        nearest();
        fullest();
        next();
        enough();
        eatsNothing();
        c.end();
    }

    /** A takes the nearest to size 1 (3 of it), B the fullest (4), C the next (2), D the first with enough (5). */
    private static SevenPlates four() {
        SevenPlates x = new SevenPlates();
        x.things(4);
        x.guest(0, 1, 3, 0, 1);
        x.guest(1, 0, 4, 1, 1);
        x.guest(2, 0, 2, 2, 1);
        x.guest(3, 0, 5, 3, 1);
        return x;
    }

    private static void judge() {
        SevenPlates x = four();
        c.due("9 of an empty pad: part", x.judge(0), -6);
        c.due("9 why", x.judge(1), -6);
        c.due("9 came", x.judge(2), 0);
        c.due("9 eaten", x.judge(3), 0);
        // A: 1 9>6, A: 1 6>3, A: 1 3>0, A: the nearest left is 0 9>6
        Check.tell(x, "AA.A1");
        c.due("9 came: the same one thrice", x.judge(2), 3);
        c.due("9 asked again", x.judge(2), 3);
        c.due("9 eaten", x.judge(3), 9);
        c.due("9 asked again", x.judge(3), 9);
        c.due("9 no part", x.judge(0), -6);
        c.due("9 no why", x.judge(1), -6);
        x.thing(1, 3, 1);
        Check.tell(x, "A");
        c.due("9 only what is left is eaten", x.judge(3), 1);
    }

    private static void judgeRefused() {
        SevenPlates x = four();
        x.things(1);
        x.leave(1);
        x.thing(0, 1, 4);
        // A: 4>1, A: 1>0, then nothing
        Check.tell(x, "A.AAB");
        c.due("9 the part", x.judge(0), 3);
        c.due("9 why: nothing", x.judge(1), 2);
        c.due("9 came", x.judge(2), -3);
        c.due("9 eaten", x.judge(3), -3);
        c.due("9 outside ahead of state", x.judge(4), -2);
        c.due("9 outside", x.judge(-1), -2);
        Check.tell(x, "AABA");
        c.due("9 the part", x.judge(0), 2);
        c.due("9 why: no such guest, though there is nothing left either", x.judge(1), 1);
        Check.tell(x, "AA0A");
        c.due("9 filled again, he finds something", x.judge(0), -6);
        c.due("9 and eats", x.judge(3), 7);
        Check.tell(x, "B1");
        for (int what = 0; what < 4; what++) c.due("9 a fault, what " + what, x.judge(what), -5);
        c.due("9 outside ahead of no", x.judge(4), -2);
        c.due("9 a fault ahead of state: used", x.used(0), -5);
        x.thing(0, 2, 1);
        Check.tell(x, "A");
        c.due("9 locked: part", x.judge(0), 0);
        c.due("9 locked: why", x.judge(1), 2);
        Check.tell(x, ".0");
        c.due("9 an hour and a filled one can always be", x.judge(0), -6);
    }

    private static void used() {
        SevenPlates x = four();
        // D: 0 9>4, B: 1 9>5, C: behind 1 is 2 9>7, '.', A: 1 5>2, '3', C: 2 7>5
        Check.tell(x, "DBC.A3C");
        c.due("10 D", x.used(0), 0);
        c.due("10 B", x.used(1), 1);
        c.due("10 C", x.used(2), 2);
        c.due("10 an hour", x.used(3), -6);
        c.due("10 A", x.used(4), 1);
        c.due("10 filled", x.used(5), -6);
        c.due("10 nobody used it by that", x.used(6), 2);
        c.due("10 no such part", x.used(7), -2);
        c.due("10 nor this", x.used(-1), -2);
        x.leave(1);
        c.due("10 state", x.used(0), -3);
        c.due("10 state ahead of outside", x.used(7), -3);
        x.say('x');
        c.due("10 no ahead of all", x.used(99), -5);
        x.wipe();
        c.due("10 of an empty pad", x.used(0), -2);
    }

    private static void behind() {
        SevenPlates x = four();
        Check.tell(x, "D.C...A.B");
        // D: 0 9>4; C: 1 9>7; A: 1 7>4; B: 2 9>5
        int[][] due = {{4, 4, 3, 3}, {4, 8, 2, 0}, {5, 9, 1, 1}, {9, 0, -6, -6}};
        for (int t = 0; t < 4; t++) {
            for (int what = 0; what < 4; what++) c.due("11 behind(" + t + ", " + what + ")", x.behind(t, what), due[t][what]);
        }
        c.due("11 nothing is done by that", x.state(0, 0), 9);
        c.due("11 thing 4 of 4", x.behind(4, 0), -1);
        c.due("11 thing -1", x.behind(-1, 0), -1);
        c.due("11 what 4", x.behind(0, 4), -2);
        c.due("11 what -1", x.behind(0, -1), -2);
        c.due("11 unknown ahead of outside", x.behind(4, 4), -1);
        x.leave(3);
        c.due("11 state", x.behind(0, 0), -3);
        c.due("11 outside ahead of state", x.behind(0, 4), -2);
        x.say('e');
        c.due("11 no ahead of state", x.behind(0, 0), -5);
        c.due("11 outside ahead of no", x.behind(0, 4), -2);
        c.due("11 unknown ahead of no", x.behind(4, 0), -1);
        Check.tell(x, "C............");
        c.due("11 not below cold", x.behind(0, 1), 0);
        c.due("11 used, cold or not", x.behind(0, 2), 2);
    }

    private static void filledAgain() {
        SevenPlates x = four();
        x.thing(0, 1, 6);
        x.thing(3, 3, 2);
        Check.tell(x, "D..03");
        c.due("11 as laid", x.behind(0, 0), 6);
        c.due("11 as laid", x.behind(3, 0), 9);
        c.due("11 as warm as it is", x.behind(1, 1), 0);
        // D is hungry for 5: 0 has 6
        c.due("11 warm of use, two hours ago", x.behind(0, 1), 7);
        c.due("11 first by use alone", x.behind(3, 2), -6);
        x.thing(3, 2, 1);
        Check.tell(x, "3");
        c.due("11 a locked one, too", x.behind(3, 0), 9);
        x.thing(0, 3, 1);
        Check.tell(x, "0");
        c.due("11 from 1 to 6", x.behind(0, 0), 6);
    }

    private static void done() {
        SevenPlates x = four();
        c.due("12 of an empty pad", x.done(), 0);
        Check.tell(x, "D.C");
        c.due("12 done", x.done(), 3);
        c.due("12 the pad is empty", x.told(0), 0);
        c.due("12 left", x.state(0, 0), 4);
        c.due("12 warm", x.state(0, 1), 8);
        c.due("12 left", x.state(1, 0), 7);
        c.due("12 warm", x.state(1, 1), 9);
        c.due("12 laid stays", x.told(11), 9);
        c.due("12 first is not kept", x.behind(0, 2), -6);
        c.due("12 last is not kept", x.behind(1, 3), -6);
        Check.tell(x, "C");
        c.due("12 nor which was used last", x.used(0), 0);
        Check.tell(x, "..");
        c.due("12 hours go on", x.behind(0, 1), 6);
        c.due("12 done", x.done(), 2);
        c.due("12 less warm", x.state(1, 1), 7);
        x.seen(0, 1);
        Check.tell(x, "0");
        c.due("12 done", x.done(), 1);
        c.due("12 filled", x.state(0, 0), 9);
        c.due("12 as warm as it was", x.state(0, 1), 6);
        c.due("12 sights stay", x.told(3), 1);
        Check.tell(x, ".4");
        c.due("12 no", x.done(), -5);
        c.due("12 the pad stays", x.told(0), 2);
        x.leave(1);
        Check.tell(x, ".B");
        c.due("12 state", x.done(), -3);
        c.due("12 the pad stays", x.told(0), 2);
        c.due("12 nothing changed", x.state(0, 1), 6);
        Check.tell(x, "B4");
        c.due("12 no ahead of state", x.done(), -5);
    }

    private static void state() {
        SevenPlates x = four();
        x.thing(1, 3, 2);
        c.due("13 left", x.state(1, 0), 2);
        c.due("13 warm", x.state(1, 1), 0);
        c.due("13 thing 4", x.state(4, 0), -1);
        c.due("13 thing -1", x.state(-1, 0), -1);
        c.due("13 what 2", x.state(0, 2), -2);
        c.due("13 what -1", x.state(0, -1), -2);
        c.due("13 unknown ahead of outside", x.state(4, 2), -1);
        Check.tell(x, "A");
        c.due("13 what is told is not yet so", x.state(0, 0), 9);
    }

    private static void nearest() {
        SevenPlates x = new SevenPlates();
        x.guest(0, 4, 1, 0, 1);
        c.due("14 size 4", x.eats(0), 4);
        x.thing(4, 2, 1);
        c.due("14 3 and 5 are as near: the least", x.eats(0), 3);
        x.thing(3, 3, 0);
        c.due("14 5 then", x.eats(0), 5);
        x.thing(0, 0, 4);
        c.due("14 by size, not by number", x.eats(0), 0);
        x.guest(0, 9, 1, 0, 1);
        c.due("14 size 9: 6", x.eats(0), 6);
        x.thing(1, 0, 6);
        c.due("14 of several the least", x.eats(0), 1);
    }

    private static void fullest() {
        SevenPlates x = new SevenPlates();
        x.guest(1, 4, 1, 1, 1);
        c.due("14 all are full: the least", x.eats(1), 0);
        for (int t = 0; t < 7; t++) x.thing(t, 3, t == 5 ? 7 : t);
        c.due("14 most is left of 5", x.eats(1), 5);
        x.thing(5, 2, 1);
        c.due("14 5 is locked", x.eats(1), 6);
        x.thing(3, 3, 6);
        c.due("14 of several the least", x.eats(1), 3);
    }

    private static void next() {
        SevenPlates x = new SevenPlates();
        x.things(3);
        x.guest(2, 9, 9, 2, 1);
        c.due("14 none used: 0", x.eats(2), 0);
        x.thing(0, 3, 0);
        c.due("14 0 is passed by", x.eats(2), 1);
        x.thing(1, 2, 1);
        c.due("14 1 is passed by", x.eats(2), 2);
        x.guest(2, 9, 2, 2, 1);
        Check.tell(x, "CC");
        c.due("14 round to the same", x.used(1), 2);
        x.thing(1, 2, 0);
        Check.tell(x, "CCCC");
        c.due("14 first 1", x.used(0), 1);
        c.due("14 then 2", x.used(1), 2);
        c.due("14 then round past 0", x.used(2), 1);
        c.due("14 then 2", x.used(3), 2);
        x.guest(0, 2, 1, 0, 1);
        Check.tell(x, "AC");
        c.due("14 behind what anybody used", x.used(1), 1);
        Check.tell(x, "A0C");
        c.due("14 what is filled was not used", x.used(2), 0);
    }

    private static void enough() {
        SevenPlates x = new SevenPlates();
        x.things(4);
        x.guest(3, 0, 5, 3, 1);
        x.thing(0, 3, 4);
        x.thing(1, 3, 5);
        c.due("14 1 has just enough", x.eats(3), 1);
        x.thing(1, 2, 1);
        c.due("14 1 is locked", x.eats(3), 2);
        x.thing(2, 3, 1);
        x.thing(3, 3, 4);
        c.due("14 none has enough: the first", x.eats(3), 0);
        x.thing(0, 3, 0);
        c.due("14 of 0 nothing is left", x.eats(3), 2);
    }

    private static void eatsNothing() {
        SevenPlates x = new SevenPlates();
        x.things(2);
        x.thing(0, 2, 1);
        x.thing(1, 3, 0);
        for (int g = 0; g < 4; g++) {
            c.due("14 unknown", x.eats(g), -1);
            x.guest(g, 5, 5, g, 5);
            c.due("14 nothing", x.eats(g), -6);
        }
        c.due("14 guest 4", x.eats(4), -1);
        c.due("14 guest -1", x.eats(-1), -1);
        c.due("14 guest 32", x.eats(32), -1);
        x.leave(3);
        c.due("14 he left", x.eats(3), -1);
    }
}
