/** Promises 10 to 12, 30 and 34: the register of rights, and sheep by shares. */
final class RightTest {
    private RightTest() {
    }

    public static void main(String[] args) {
        registers();
        registerRefused();
        registerLimit();
        releases();
        worth();
        worthOfManyShares();
        grazes();
        grazesAboveWorth();
        grazeRefused();
        rightRefused();
        sheepRefused();
        Check.end("RightTest");
    }

    private static void registers() {
        Peatland x = new Peatland();
        Check.due("10 first", x.register(Peatland.GRAZE, 0, 3, 99), 0);
        Check.due("10 another kind", x.register(Peatland.CUT, 0, 3, 0), 1);
        Check.due("10 shares are not looked at", x.register(Peatland.BURN, 0, 3, -7), 2);
        Check.due("10 nor above", x.register(Peatland.CUT, 0, 4, 1000), 3);
        Check.due("10 another person", x.register(Peatland.GRAZE, 0, 4, 1), 4);
        x.grant(0, 0, 0, 3);
        Check.due("10 the owner", x.register(Peatland.GRAZE, 1, 5, 1), 10);
        Check.due("30 kind", x.rightAt(1, 0), Peatland.CUT);
        Check.due("30 parcel", x.rightAt(10, 1), 1);
        Check.due("30 person", x.rightAt(10, 2), 5);
        Check.due("30 worth of GRAZE", x.rightAt(0, 3), 99);
        Check.due("30 worth of CUT", x.rightAt(3, 3), 0);
        Check.due("30 worth of BURN", x.rightAt(2, 3), 0);
        Check.due("30 comes from none", x.rightAt(10, 4), Peatland.NONE);
        Check.due("30 comes from one", x.rightAt(9, 4), 4);
    }

    private static void registerRefused() {
        Peatland x = new Peatland();
        x.die(9);
        x.register(Peatland.GRAZE, 0, 1, 5);
        Check.outOfBounds("10 kind below", () -> x.register(-1, 0, 0, 1));
        Check.outOfBounds("10 kind above", () -> x.register(3, 0, 0, 1));
        Check.outOfBounds("10 parcel below", () -> x.register(0, -1, 0, 1));
        Check.outOfBounds("10 parcel above", () -> x.register(0, 1, 0, 1));
        Check.outOfBounds("10 person below", () -> x.register(0, 0, -1, 1));
        Check.outOfBounds("10 person above", () -> x.register(0, 0, 12, 1));
        Check.outOfBounds("10 person ahead of shares", () -> x.register(0, 0, 12, 0));
        Check.outOfBounds("10 kind ahead of shares", () -> x.register(3, 0, 0, 0));
        Check.badArgument("10 shares 0", () -> x.register(0, 0, 0, 0));
        Check.badArgument("10 shares 100", () -> x.register(0, 0, 0, 100));
        Check.badArgument("10 shares ahead of the dead", () -> x.register(0, 0, 9, 0));
        Check.badArgument("10 shares ahead of one that is there", () -> x.register(0, 0, 1, 0));
        Check.badState("10 the dead", () -> x.register(0, 0, 9, 1));
        Check.badState("10 the dead, other kinds", () -> x.register(1, 0, 9, 0));
        Check.badState("10 one that is there", () -> x.register(0, 0, 1, 9));
        Check.due("10 the refused have no number", x.register(1, 0, 1, 0), 1);
        x.release(0);
        Check.due("10 one that has ended", x.register(0, 0, 1, 9), 2);
    }

    private static void registerLimit() {
        Peatland x = new Peatland();
        for (int i = 0; i < 80; i++) {
            Check.due("10 right " + i, x.register(Peatland.CUT, 0, 0, 0), i);
            x.release(i);
        }
        Check.badState("10 there are 80, those that ended too", () -> x.register(Peatland.CUT, 0, 0, 0));
        Check.badArgument("10 shares ahead of 80", () -> x.register(Peatland.GRAZE, 0, 0, 0));
    }

    private static void releases() {
        Peatland x = new Peatland();
        Check.outOfBounds("11 no right yet", () -> x.release(0));
        x.register(Peatland.GRAZE, 0, 1, 5);
        x.register(Peatland.GRAZE, 0, 2, 6);
        x.graze(1, 0, 5);
        Check.due("11 one that had not ended", x.release(0), true);
        Check.due("11 one that had ended", x.release(0), false);
        Check.outOfBounds("11 below", () -> x.release(-1));
        Check.outOfBounds("11 above", () -> x.release(2));
        for (int what = 0; what < 5; what++) {
            Check.due("30 ended, what " + what, x.rightAt(0, what), Peatland.NONE);
        }
        Check.due("11 the other one stays", x.rightAt(1, 3), 6);
        Check.due("11 sheep stay", x.sheep(1, 0), 5);
        Check.badState("11 no more sheep", () -> x.graze(1, 0, 1));
    }

    private static void worth() {
        Peatland x = new Peatland();
        x.grant(0, 0, 22, 0);
        x.register(Peatland.CUT, 1, 1, 0);
        x.register(Peatland.GRAZE, 1, 1, 5);
        x.register(Peatland.GRAZE, 1, 2, 20);
        x.register(Peatland.GRAZE, 1, 3, 4);
        x.register(Peatland.GRAZE, 0, 3, 4);
        Check.due("30 room for all shares", x.rightAt(1, 3), 5);
        Check.due("30 what is left of the room", x.rightAt(2, 3), 13);
        Check.due("30 nothing is left", x.rightAt(3, 3), 0);
        Check.due("30 another parcel", x.rightAt(4, 3), 4);
        x.release(1);
        Check.due("30 ended ones don't count", x.rightAt(2, 3), 18);
        Check.due("30 shares count, not their worth", x.rightAt(3, 3), 0);
        x.release(2);
        Check.due("30 all ahead ended", x.rightAt(3, 3), 4);
        x.register(Peatland.GRAZE, 1, 1, 16);
        Check.due("30 greater numbers don't count", x.rightAt(3, 3), 4);
        Check.due("30 lesser numbers do", x.rightAt(5, 3), 14);
    }

    private static void worthOfManyShares() {
        Peatland x = new Peatland();
        x.register(Peatland.GRAZE, 0, 0, 99);
        x.register(Peatland.GRAZE, 0, 1, 99);
        x.register(Peatland.GRAZE, 0, 2, 99);
        x.register(Peatland.GRAZE, 0, 3, 99);
        Check.due("30 second", x.rightAt(1, 3), 99);
        Check.due("30 third", x.rightAt(2, 3), 2);
        Check.due("30 fourth", x.rightAt(3, 3), 0);
    }

    private static void grazes() {
        Peatland x = new Peatland();
        x.register(Peatland.GRAZE, 0, 3, 10);
        Check.due("12 first", x.graze(3, 0, 10), 0);
        Check.due("34 sheep", x.sheep(3, 0), 10);
        Check.due("12 fewer", x.graze(3, 0, 4), 10);
        Check.due("34 fewer", x.sheep(3, 0), 4);
        Check.due("12 none", x.graze(3, 0, 0), 4);
        Check.due("34 none", x.sheep(3, 0), 0);
        Check.badState("12 more than worth", () -> x.graze(3, 0, 11));
        Check.due("34 nothing changed", x.sheep(3, 0), 0);
        Check.due("12 none without a right", x.graze(4, 0, 0), 0);
        Check.badState("12 one without a right", () -> x.graze(4, 0, 1));
        x.register(Peatland.CUT, 0, 4, 50);
        Check.badState("12 CUT is worth nothing", () -> x.graze(4, 0, 1));
        x.grant(0, 0, 0, 4);
        Check.badState("12 the owner needs a right", () -> x.graze(4, 1, 1));
        Check.due("12 the right that came", x.graze(3, 1, 2), 0);
        Check.due("34 by parcels", x.sheep(3, 0), 0);
        Check.due("34 by persons", x.sheep(4, 1), 0);
    }

    private static void grazesAboveWorth() {
        Peatland x = new Peatland();
        x.grant(0, 0, 9, 3);
        x.register(Peatland.GRAZE, 1, 5, 20);
        x.graze(5, 1, 20);
        x.grant(1, 5, 9, 4);
        Check.due("34 stay", x.sheep(5, 1), 20);
        Check.badState("12 fewer, but more than worth", () -> x.graze(5, 1, 11));
        Check.due("12 as many as worth", x.graze(5, 1, 10), 20);
    }

    private static void grazeRefused() {
        Peatland x = new Peatland();
        x.register(Peatland.GRAZE, 0, 9, 5);
        x.die(9);
        Check.outOfBounds("12 person below", () -> x.graze(-1, 0, 0));
        Check.outOfBounds("12 person above", () -> x.graze(12, 0, 0));
        Check.outOfBounds("12 parcel below", () -> x.graze(0, -1, 0));
        Check.outOfBounds("12 parcel above", () -> x.graze(0, 1, 0));
        Check.outOfBounds("12 parcel ahead of sheep", () -> x.graze(0, 1, 401));
        Check.badArgument("12 sheep below", () -> x.graze(0, 0, -1));
        Check.badArgument("12 sheep above", () -> x.graze(0, 0, 401));
        Check.badState("12 sheep 400", () -> x.graze(0, 0, 400));
        Check.badState("12 the dead have no rights", () -> x.graze(9, 0, 1));
        Check.due("12 none of the dead", x.graze(9, 0, 0), 0);
    }

    private static void rightRefused() {
        Peatland x = new Peatland();
        Check.outOfBounds("30 no right yet", () -> x.rightAt(0, 0));
        x.register(Peatland.GRAZE, 0, 9, 5);
        Check.outOfBounds("30 below", () -> x.rightAt(-1, 0));
        Check.outOfBounds("30 above", () -> x.rightAt(1, 0));
        Check.outOfBounds("30 what below", () -> x.rightAt(0, -1));
        Check.outOfBounds("30 what above", () -> x.rightAt(0, 5));
        x.release(0);
        Check.outOfBounds("30 what above, of one that has ended", () -> x.rightAt(0, 5));
    }

    private static void sheepRefused() {
        Peatland x = new Peatland();
        Check.outOfBounds("34 person below", () -> x.sheep(-1, 0));
        Check.outOfBounds("34 person above", () -> x.sheep(12, 0));
        Check.outOfBounds("34 parcel below", () -> x.sheep(0, -1));
        Check.outOfBounds("34 parcel above", () -> x.sheep(0, 1));
    }
}
