/** Promises 1 to 8: a new object, things, guests, the pad. */
public final class ThingsTest {
    private static final Check c = new Check();

    public static void main(String[] args) {
        newObject();
        things();
        thing();
        thingRefused();
        guest();
        leave();
        say();
        wipe();
        fault();
        c.end();
    }

    private static void newObject() {
        SevenPlates x = new SevenPlates();
        c.due("1 signs", x.told(0), 0);
        c.due("1 things", x.told(1), 7);
        c.due("1 guests", x.told(2), 0);
        c.due("1 sights", x.told(3), 0);
        for (int t = 0; t < 7; t++) {
            int base = 10 * (1 + t);
            c.due("1 size of " + t, x.told(base), t);
            c.due("1 laid of " + t, x.told(base + 1), 9);
            c.due("1 locked of " + t, x.told(base + 2), 0);
            c.due("1 left of " + t, x.told(base + 3), 9);
            c.due("1 warm of " + t, x.told(base + 4), 0);
            c.due("1 sight of " + t, x.told(base + 5), -6);
        }
        c.due("1 no image 0", x.restore(0), -3);
        c.due("1 no image 1", x.restore(1), -3);
    }

    private static void things() {
        SevenPlates x = new SevenPlates();
        x.guest(2, 4, 3, 0, 5);
        Check.tell(x, "C");
        x.done();
        x.thing(1, 0, 8);
        x.thing(1, 1, 4);
        x.thing(1, 2, 1);
        x.thing(6, 1, 2);
        x.thing(0, 0, 5);
        x.seen(1, 3);
        Check.tell(x, "C6");
        c.due("2 things(0)", x.things(0), -2);
        c.due("2 things(8)", x.things(8), -2);
        c.due("2 things(-1)", x.things(-1), -2);
        c.due("2 refused, nothing changed", x.told(21), 4);
        c.due("2 warm ahead", x.told(54), 9);
        c.due("2 things(6)", x.things(6), 7);
        c.due("2 things now", x.told(1), 6);
        c.due("2 size anew", x.told(20), 1);
        c.due("2 size anew, of 0", x.told(10), 0);
        c.due("2 laid anew", x.told(21), 9);
        c.due("2 unlocked", x.told(22), 0);
        c.due("2 left anew", x.told(53), 9);
        c.due("2 cold", x.told(54), 0);
        c.due("2 sights go", x.told(3), 0);
        c.due("2 guests stay", x.told(2), 4);
        c.due("2 hunger stays", x.told(301), 3);
        c.due("2 the pad stays", x.told(0), 2);
        c.due("2 the seventh is none: a fault", x.fault(), 1);
        c.due("2 and unknown", x.state(6, 0), -1);
        c.due("2 things(7)", x.things(7), 6);
        c.due("2 the seventh as at first", x.told(71), 9);
        c.due("2 no fault then", x.fault(), -6);
        c.due("2 things(1)", x.things(1), 7);
        c.due("2 things(1) again", x.things(1), 1);
    }

    private static void thing() {
        SevenPlates x = new SevenPlates();
        c.due("3 size", x.thing(2, 0, 0), 2);
        c.due("3 size again", x.thing(2, 0, 9), 0);
        c.due("3 size is", x.told(30), 9);
        c.due("3 left", x.thing(2, 3, 4), 9);
        c.due("3 left is", x.told(33), 4);
        c.due("3 laid stays", x.told(31), 9);
        c.due("3 left as laid", x.thing(2, 3, 9), 4);
        c.due("3 left none", x.thing(2, 3, 0), 9);
        c.due("3 laid", x.thing(2, 1, 5), 9);
        c.due("3 laid is", x.told(31), 5);
        c.due("3 so much is left", x.told(33), 5);
        c.due("3 laid 0", x.thing(2, 1, 0), 5);
        c.due("3 left 0", x.told(33), 0);
        c.due("3 lock", x.thing(2, 2, 1), 0);
        c.due("3 lock again", x.thing(2, 2, 1), 1);
        c.due("3 unlock", x.thing(2, 2, 0), 1);
        c.due("3 others stay", x.told(42), 0);

        x.guest(0, 0, 1, 2, 1);
        Check.tell(x, "AA");
        x.done();
        c.due("3 warm by use", x.state(1, 1), 9);
        c.due("3 left anew", x.thing(1, 3, 3), 8);
        c.due("3 as warm as it is", x.state(1, 1), 9);
        c.due("3 laid anew", x.thing(1, 1, 7), 9);
        c.due("3 cold then", x.state(1, 1), 0);
        c.due("3 the other is warm", x.state(0, 1), 9);
        x.seen(1, 2);
        x.thing(1, 1, 6);
        c.due("3 sights stay", x.told(25), 2);
    }

    private static void thingRefused() {
        SevenPlates x = new SevenPlates();
        x.things(3);
        c.due("3 thing 3 of 3", x.thing(3, 0, 0), -1);
        c.due("3 thing -1", x.thing(-1, 0, 0), -1);
        c.due("3 unknown ahead of outside", x.thing(3, 9, 99), -1);
        c.due("3 what 4", x.thing(0, 4, 0), -2);
        c.due("3 what -1", x.thing(0, -1, 0), -2);
        c.due("3 size 10", x.thing(0, 0, 10), -2);
        c.due("3 size -1", x.thing(0, 0, -1), -2);
        c.due("3 laid 10", x.thing(0, 1, 10), -2);
        c.due("3 laid -1", x.thing(0, 1, -1), -2);
        c.due("3 locked 2", x.thing(0, 2, 2), -2);
        c.due("3 locked -1", x.thing(0, 2, -1), -2);
        c.due("3 left -1", x.thing(0, 3, -1), -2);
        x.thing(0, 1, 5);
        c.due("3 left more than laid", x.thing(0, 3, 6), -3);
        c.due("3 outside ahead of state", x.thing(0, 3, 10), -2);
        c.due("3 refused, nothing changed", x.told(13), 5);
        c.due("3 a great number", x.thing(Integer.MAX_VALUE, 0, 0), -1);
        c.due("3 a least number", x.thing(Integer.MIN_VALUE, 0, 0), -1);
    }

    private static void guest() {
        SevenPlates x = new SevenPlates();
        c.due("4 the first", x.guest(3, 0, 1, 0, 1), 1);
        c.due("4 the second", x.guest(0, 9, 9, 3, 9), 2);
        c.due("4 otherwise", x.guest(3, 4, 5, 2, 6), 2);
        c.due("4 guests", x.told(2), 9);
        c.due("4 size", x.told(400), 4);
        c.due("4 hunger", x.told(401), 5);
        c.due("4 habit", x.told(402), 2);
        c.due("4 often", x.told(403), 6);
        c.due("4 guest 4", x.guest(4, 0, 1, 0, 1), -1);
        c.due("4 guest -1", x.guest(-1, 0, 1, 0, 1), -1);
        c.due("4 unknown ahead of outside", x.guest(4, 0, 0, 0, 1), -1);
        c.due("4 size 10", x.guest(3, 10, 1, 0, 1), -2);
        c.due("4 size -1", x.guest(3, -1, 1, 0, 1), -2);
        c.due("4 hunger 0", x.guest(3, 0, 0, 0, 1), -2);
        c.due("4 hunger 10", x.guest(3, 0, 10, 0, 1), -2);
        c.due("4 habit 4", x.guest(3, 0, 1, 4, 1), -2);
        c.due("4 habit -1", x.guest(3, 0, 1, -1, 1), -2);
        c.due("4 often 0", x.guest(3, 0, 1, 0, 0), -2);
        c.due("4 often 10", x.guest(3, 0, 1, 0, 10), -2);
        c.due("4 refused, nothing changed", x.told(400), 4);
        c.due("4 a refused one does not come", x.guest(1, 0, 0, 0, 1), -2);
        c.due("4 guests still", x.told(2), 9);
        c.due("4 the third", x.guest(1, 0, 1, 0, 1), 3);
        c.due("4 the fourth", x.guest(2, 0, 1, 0, 1), 4);
    }

    private static void leave() {
        SevenPlates x = new SevenPlates();
        c.due("5 none was", x.leave(0), -1);
        x.guest(0, 1, 2, 3, 4);
        x.guest(2, 1, 2, 3, 4);
        c.due("5 no such number", x.leave(4), -1);
        c.due("5 nor this", x.leave(-1), -1);
        c.due("5 nor this", x.leave(33), -1);
        c.due("5 not there", x.leave(1), -1);
        c.due("5 leaves", x.leave(0), 1);
        c.due("5 no more", x.leave(0), -1);
        c.due("5 is none", x.told(100), -2);
        c.due("5 the other is", x.told(2), 4);
        c.due("5 leaves", x.leave(2), 0);
        c.due("5 nobody", x.told(2), 0);
    }

    private static void say() {
        SevenPlates x = new SevenPlates();
        c.due("6 32", x.say(32), -2);
        c.due("6 127", x.say(127), -2);
        c.due("6 -1", x.say(-1), -2);
        c.due("6 33", x.say(33), 1);
        c.due("6 126", x.say(126), 2);
        for (int i = 3; i <= 40; i++) c.due("6 sign " + i, x.say('.'), i);
        c.due("6 a sign too many", x.say('.'), -4);
        c.due("6 outside ahead of full", x.say(32), -2);
        c.due("6 forty", x.told(0), 40);
    }

    private static void wipe() {
        SevenPlates x = new SevenPlates();
        c.due("7 empty", x.wipe(), 0);
        Check.tell(x, "E..");
        c.due("7 three", x.wipe(), 3);
        c.due("7 none then", x.wipe(), 0);
        c.due("7 no fault then", x.fault(), -6);
        Check.tell(x, "........................................");
        c.due("7 forty", x.wipe(), 40);
        c.due("7 room again", x.say('.'), 1);
    }

    private static void fault() {
        SevenPlates x = new SevenPlates();
        c.due("8 empty", x.fault(), -6);
        Check.tell(x, "ABCD.0123456");
        c.due("8 all these can stand", x.fault(), -6);
        for (char sign = 33; sign < 127; sign++) {
            boolean can = "ABCD.0123456".indexOf(sign) >= 0;
            SevenPlates other = new SevenPlates();
            Check.tell(other, ".A" + sign + "!");
            c.due("8 " + sign, other.fault(), can ? 3 : 2);
        }
        Check.tell(x, "012");
        x.things(2);
        c.due("8 there is no thing 2", x.fault(), 2);
        x.things(3);
        c.due("8 there is", x.fault(), -6);
    }
}
