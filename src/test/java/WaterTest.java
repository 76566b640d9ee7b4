/** Promises 13 to 19, 22, 31, 32 and 33: rain, drains, peat, fire, days, birds and payments. */
final class WaterTest {
    private WaterTest() {
    }

    public static void main(String[] args) {
        rains();
        digs();
        fills();
        drainsRun();
        cuts();
        cutRefused();
        winds();
        burns();
        burnDays();
        burnRests();
        burnRefused();
        passes();
        dries();
        sheepTread();
        crowdOfTheState();
        crowdWithoutSquares();
        peatGrows();
        burntDoesNotGrow();
        birds();
        birdsNeedPeat();
        payments();
        paymentsOfTheYear();
        drainsAheadOfTheYear();
        askedRefused();
        Check.end("WaterTest");
    }

    private static void passDays(Peatland x, int days) {
        int left = days;
        while (left > 0) {
            int now = Math.min(left, 200);
            x.pass(now);
            left -= now;
        }
    }

    private static void rains() {
        Peatland x = new Peatland();
        Check.badArgument("13 amount 0", () -> x.rain(0));
        Check.badArgument("13 amount 61", () -> x.rain(61));
        Check.badArgument("13 amount below", () -> x.rain(-1));
        Check.due("32 nothing rained", x.water(1), 0);
        Check.due("13 nothing runs off", x.rain(60), 0);
        Check.due("31 water", x.square(99, 1), 100);
        Check.due("13 all runs off", x.rain(1), 100);
        Check.due("31 water stays", x.square(0, 1), 100);
        Check.due("32 in all squares", x.water(0), 10000);
        Check.due("32 rained", x.water(1), 6100);
        Check.due("32 ran off", x.water(2), 100);
        Peatland y = new Peatland();
        y.rain(50);
        Check.due("13 what would be above 100", y.rain(15), 500);
        Check.due("31 water up to 100", y.square(50, 1), 100);
        Check.due("13 again", y.rain(1), 100);
        Check.due("32 ran off in all", y.water(2), 600);
    }

    private static void digs() {
        Peatland x = new Peatland();
        Check.due("14 right", x.dig(0, 1), 1);
        Check.due("14 left", x.dig(1, 0), 2);
        Check.due("14 down", x.dig(0, 10), 3);
        Check.due("14 up", x.dig(99, 89), 4);
        Check.badState("14 such a drain", () -> x.dig(0, 1));
        Check.outOfBounds("14 from below", () -> x.dig(-1, 0));
        Check.outOfBounds("14 from above", () -> x.dig(100, 99));
        Check.outOfBounds("14 to below", () -> x.dig(0, -1));
        Check.outOfBounds("14 to above", () -> x.dig(99, 100));
        Check.badArgument("14 itself", () -> x.dig(5, 5));
        Check.badArgument("14 a corner", () -> x.dig(5, 16));
        Check.badArgument("14 the other corner", () -> x.dig(16, 5));
        Check.badArgument("14 two away", () -> x.dig(5, 7));
        Check.badArgument("14 end of a row", () -> x.dig(9, 10));
        Check.badArgument("14 end of a row, back", () -> x.dig(10, 9));
        for (int i = 5; i <= 20; i++) {
            Check.due("14 drain " + i, x.dig(20 + i, 30 + i), i);
        }
        Check.badState("14 there are 20", () -> x.dig(50, 51));
        Check.badArgument("14 side ahead of 20", () -> x.dig(50, 52));
        Check.due("15 room again", x.fill(19), 19);
        Check.due("14 room again", x.dig(50, 51), 20);
    }

    private static void fills() {
        Peatland x = new Peatland();
        Check.outOfBounds("15 no drain yet", () -> x.fill(0));
        x.dig(0, 1);
        x.dig(50, 51);
        x.dig(70, 71);
        Check.due("15 first", x.fill(0), 2);
        Check.outOfBounds("15 below", () -> x.fill(-1));
        Check.outOfBounds("15 above", () -> x.fill(2));
        Check.due("15 those behind it are 1 less", x.fill(1), 1);
        x.pass(1);
        Check.due("15 the one that is left", x.square(50, 1), 30);
        Check.due("15 filled", x.square(0, 1), 40);
        Check.due("15 filled", x.square(70, 1), 40);
        Check.due("14 again", x.dig(0, 1), 2);
        Check.due("15 to none", x.fill(0), 1);
        Check.due("15 to none", x.fill(0), 0);
    }

    private static void drainsRun() {
        Peatland x = new Peatland();
        x.dig(0, 1);
        x.dig(1, 2);
        x.pass(1);
        Check.due("19 a quarter", x.square(0, 1), 30);
        Check.due("19 in their order", x.square(1, 1), 38);
        Check.due("19 the last one", x.square(2, 1), 52);
        x.pass(1);
        Check.due("19 rounded down", x.square(0, 1), 23);
        Check.due("19 second day", x.square(1, 1), 34);
        Check.due("19 second day", x.square(2, 1), 63);
        Check.due("32 drains lose none", x.water(0), 4000);
        passDays(x, 40);
        Check.due("19 what is no quarter stays", x.square(0, 1), 3);
        Check.due("31 all of it", x.square(0, 1) + x.square(1, 1) + x.square(2, 1), 120);
        Peatland y = new Peatland();
        y.dig(1, 0);
        y.dig(0, 1);
        y.rain(55);
        y.fill(1);
        y.pass(1);
        Check.due("19 no more than there is room for", y.square(0, 1), 100);
        Check.due("19 the rest stays", y.square(1, 1), 90);
        y.pass(1);
        Check.due("19 no room", y.square(1, 1), 90);
    }

    private static void cuts() {
        Peatland x = new Peatland();
        x.grant(0, 0, 1, 3);
        x.register(Peatland.CUT, 1, 4, 0);
        x.register(Peatland.BURN, 1, 5, 0);
        x.register(Peatland.CUT, 0, 6, 0);
        Check.due("16 the owner", x.cut(3, 0, 20), 30);
        Check.due("16 who has the right", x.cut(4, 0, 1), 29);
        Check.badState("16 BURN is no CUT", () -> x.cut(5, 0, 1));
        Check.badState("16 a right of another parcel", () -> x.cut(6, 0, 1));
        Check.badState("16 the owner of another parcel", () -> x.cut(3, 50, 1));
        Check.due("16 of the state, with a right", x.cut(6, 50, 5), 45);
        Check.badState("16 of the state, without one", () -> x.cut(7, 50, 5));
        Check.due("16 the other square", x.square(1, 0), 50);
        x.release(0);
        Check.badState("16 the right has ended", () -> x.cut(4, 0, 1));
        x.cut(3, 0, 20);
        Check.badState("16 there is less", () -> x.cut(3, 0, 10));
        Check.due("16 as much as there is", x.cut(3, 0, 9), 0);
        Check.badState("16 nothing left", () -> x.cut(3, 0, 1));
        x.grant(1, 1, 1, 8);
        Check.badState("16 no owner any more", () -> x.cut(3, 1, 1));
        Check.due("16 the new owner", x.cut(8, 1, 1), 49);
    }

    private static void cutRefused() {
        Peatland x = new Peatland();
        x.register(Peatland.CUT, 0, 9, 0);
        x.die(9);
        Check.outOfBounds("16 person below", () -> x.cut(-1, 0, 1));
        Check.outOfBounds("16 person above", () -> x.cut(12, 0, 1));
        Check.outOfBounds("16 square below", () -> x.cut(0, -1, 1));
        Check.outOfBounds("16 square above", () -> x.cut(0, 100, 1));
        Check.outOfBounds("16 square ahead of amount", () -> x.cut(0, 100, 0));
        Check.badArgument("16 amount 0", () -> x.cut(0, 0, 0));
        Check.badArgument("16 amount 21", () -> x.cut(0, 0, 21));
        Check.badArgument("16 amount ahead of the dead", () -> x.cut(9, 0, 21));
        Check.badState("16 the dead", () -> x.cut(9, 0, 1));
        Check.badState("16 may not", () -> x.cut(0, 0, 1));
        Check.due("31 nothing changed", x.square(0, 0), 50);
    }

    private static void winds() {
        Peatland x = new Peatland();
        Check.badArgument("17 below", () -> x.wind(-1));
        Check.badArgument("17 above", () -> x.wind(10));
        Check.due("17 at first", x.wind(9), 0);
        Check.due("17 then", x.wind(0), 9);
        Check.due("17 then", x.wind(3), 0);
        Check.due("17 then", x.wind(3), 3);
    }

    /** With the squares 0, 1 and 2 of the person 0, dry enough to be burnt on the day 60. */
    private static Peatland dryMoor() {
        Peatland x = new Peatland();
        x.grant(0, 0, 2, 0);
        x.dig(0, 10);
        x.dig(1, 11);
        x.dig(2, 12);
        passDays(x, 60);
        return x;
    }

    private static void burns() {
        Peatland x = dryMoor();
        x.register(Peatland.BURN, 1, 4, 0);
        x.register(Peatland.CUT, 1, 5, 0);
        Check.due("31 dry", x.square(0, 1) <= 30, true);
        x.wind(4);
        Check.badState("18 the wind is 4", () -> x.burn(0, 0));
        x.wind(3);
        Check.due("18 the owner", x.burn(0, 0), 45);
        Check.due("31 peat", x.square(0, 0), 45);
        Check.due("18 who has the right", x.burn(4, 1), 45);
        Check.badState("18 CUT is no BURN", () -> x.burn(5, 2));
        Check.badState("18 without a right", () -> x.burn(6, 2));
        x.cut(0, 2, 20);
        x.cut(0, 2, 20);
        x.cut(0, 2, 7);
        Check.due("18 what it has", x.burn(0, 2), 0);
        Check.badState("18 burnt already", () -> x.burn(0, 0));
        Check.badState("18 of the state", () -> x.burn(0, 50));
        Check.badState("18 too wet", () -> x.burn(0, 12));
    }

    private static void burnDays() {
        Peatland x = new Peatland();
        x.grant(0, 0, 9, 0);
        x.dig(0, 10);
        x.dig(1, 11);
        x.dig(2, 12);
        x.dig(3, 13);
        passDays(x, 59);
        Check.badState("18 the day 59", () -> x.burn(0, 0));
        x.pass(1);
        Check.due("18 the day 60", x.burn(0, 0), 45);
        passDays(x, 90);
        Check.due("22 today", x.today(), 150);
        Check.due("18 the day 150", x.burn(0, 1), 45);
        x.pass(1);
        Check.badState("18 the day 151", () -> x.burn(0, 2));
        passDays(x, 360 + 59 - 151);
        Check.badState("18 the day 59 of the next year", () -> x.burn(0, 2));
        x.pass(1);
        Check.due("18 the day 60 of the next year", x.burn(0, 2), 45);
        burnWater();
    }

    private static void burnWater() {
        Peatland x = new Peatland();
        x.grant(0, 0, 99, 0);
        passDays(x, 128);
        Check.due("31 water", x.square(0, 1), 31);
        Check.badState("18 its water is 31", () -> x.burn(0, 0));
        x.pass(1);
        Check.due("31 water", x.square(0, 1), 30);
        Check.due("18 its water is 30", x.burn(0, 0), 45);
    }

    private static void burnRests() {
        Peatland x = dryMoor();
        passDays(x, 10);
        x.burn(0, 0);
        passDays(x, 1079);
        Check.due("22 today", x.today(), 70 + 1079);
        Check.badState("18 burnt 1079 days ago", () -> x.burn(0, 0));
        x.pass(1);
        Check.due("18 burnt 1080 days ago", x.burn(0, 0), 40);
        Check.badState("18 burnt today", () -> x.burn(0, 0));
    }

    private static void burnRefused() {
        Peatland x = dryMoor();
        x.register(Peatland.BURN, 1, 9, 0);
        x.die(9);
        Check.outOfBounds("18 person below", () -> x.burn(-1, 0));
        Check.outOfBounds("18 person above", () -> x.burn(12, 0));
        Check.outOfBounds("18 square below", () -> x.burn(0, -1));
        Check.outOfBounds("18 square above", () -> x.burn(0, 100));
        Check.badState("18 the dead", () -> x.burn(9, 0));
        Check.badState("18 may not", () -> x.burn(8, 0));
        Check.due("31 nothing changed", x.square(0, 0), 50);
        Check.due("18 it could be burnt", x.burn(0, 0), 45);
    }

    private static void passes() {
        Peatland x = new Peatland();
        Check.badArgument("19 days 0", () -> x.pass(0));
        Check.badArgument("19 days 201", () -> x.pass(201));
        Check.badArgument("19 days below", () -> x.pass(Integer.MIN_VALUE));
        Check.badArgument("19 days above", () -> x.pass(Integer.MAX_VALUE));
        Check.due("22 today", x.today(), 0);
        Check.due("19 a day", x.pass(1), 1);
        Check.due("19 some days", x.pass(199), 200);
        for (int i = 2; i <= 99; i++) {
            Check.due("19 many days", x.pass(200), 200 * i);
        }
        Check.due("19 nearly all", x.pass(199), 19999);
        Check.badState("19 it would be 20001", () -> x.pass(2));
        Check.due("22 today", x.today(), 19999);
        Check.due("19 the last day", x.pass(1), 20000);
        Check.badState("19 above", () -> x.pass(1));
        Check.badArgument("19 days ahead of today", () -> x.pass(201));
        Check.due("22 the last day", x.today(), 20000);
    }

    private static void dries() {
        Peatland x = new Peatland();
        passDays(x, 119);
        Check.due("19 the day 119", x.square(0, 1), 40);
        Check.due("32 not dried", x.water(3), 0);
        x.pass(1);
        Check.due("19 the day 120", x.square(0, 1), 39);
        Check.due("32 dried", x.water(3), 100);
        passDays(x, 39);
        Check.due("19 the last of it", x.square(0, 1), 0);
        x.pass(1);
        Check.due("19 nothing is left to dry", x.square(0, 1), 0);
        Check.due("32 dried", x.water(3), 4000);
        Check.due("32 in all", x.water(0), 0);
        passDays(x, 238 - 160);
        x.rain(10);
        x.pass(1);
        Check.due("19 the day 239", x.square(0, 1), 9);
        x.pass(1);
        Check.due("19 the day 240", x.square(0, 1), 9);
        passDays(x, 480 - 240);
        Check.due("19 the day 120 of the next year", x.square(0, 1), 8);
        Check.due("32 dried", x.water(3), 4200);
    }

    private static void sheepTread() {
        Peatland x = new Peatland();
        x.grant(0, 0, 9, 0);
        x.register(Peatland.GRAZE, 1, 4, 15);
        x.register(Peatland.GRAZE, 1, 5, 5);
        x.graze(4, 1, 15);
        x.graze(5, 1, 5);
        x.pass(1);
        Check.due("19 as many as there is room for", x.square(0, 0), 50);
        x.grant(1, 0, 0, 0);
        x.pass(1);
        Check.due("19 the other parcel's square stays", x.square(0, 0), 50);
        Check.due("19 the lowest one", x.square(1, 0), 49);
        Check.due("19 not the next one", x.square(2, 0), 50);
        passDays(x, 49);
        Check.due("19 all its peat", x.square(1, 0), 0);
        Check.due("19 not yet the next one", x.square(2, 0), 50);
        x.pass(1);
        Check.due("19 the lowest one that has peat", x.square(2, 0), 49);
        x.merge(2, 1);
        x.pass(1);
        Check.due("19 room again", x.square(2, 0), 49);
        Check.due("19 room again", x.square(0, 0), 50);
    }

    private static void crowdOfTheState() {
        Peatland x = new Peatland();
        x.register(Peatland.GRAZE, 0, 4, 3);
        x.graze(4, 0, 3);
        x.grant(0, 0, 89, 2);
        x.grant(0, 90, 98, 2);
        x.grant(1, 0, 0, 3);
        x.pass(2);
        Check.due("19 a parcel of the state too", x.square(99, 0), 48);
        Check.due("19 others stay", x.square(0, 0), 50);
    }

    private static void crowdWithoutSquares() {
        Peatland x = new Peatland();
        x.grant(0, 0, 1, 0);
        x.register(Peatland.GRAZE, 1, 4, 4);
        x.graze(4, 1, 4);
        x.grant(1, 0, 1, 2);
        x.pass(10);
        Check.due("19 no square, no loss", x.square(0, 0), 50);
        x.graze(4, 2, 4);
        x.grant(0, 50, 51, 2);
        x.graze(4, 1, 0);
        x.pass(1);
        Check.due("19 room enough", x.square(0, 0), 50);
        x.grant(2, 1, 1, 3);
        x.grant(0, 70, 71, 3);
        x.pass(3);
        Check.due("19 too many for one square", x.square(0, 0), 47);
        Check.due("19 others stay", x.square(1, 0), 50);
    }

    private static void peatGrows() {
        Peatland x = new Peatland();
        x.grant(0, 0, 0, 0);
        passDays(x, 359);
        x.rain(59);
        x.pass(1);
        Check.due("19 not wet", x.square(5, 0), 50);
        passDays(x, 359);
        x.rain(60);
        Check.due("31 not yet", x.square(5, 0), 50);
        x.pass(1);
        Check.due("19 wet as a year begins", x.square(5, 0), 51);
        x.pass(1);
        Check.due("19 once a year", x.square(5, 0), 51);
    }

    private static void burntDoesNotGrow() {
        Peatland x = dryMoor();
        passDays(x, 40);
        x.burn(0, 0);
        for (int drains = 2; drains >= 0; drains--) {
            Check.due("15 drains left", x.fill(0), drains);
        }
        passDays(x, 259);
        Check.due("22 the day ahead of the year", x.today(), 359);
        x.rain(60);
        x.pass(1);
        Check.due("19 burnt in the last 360 days", x.square(0, 0), 45);
        Check.due("19 another one", x.square(1, 0), 51);
        Check.due("31 no birds", x.square(0, 2), 0);
        Check.due("31 birds beside it", x.square(1, 2), 6);
        passDays(x, 99);
        Check.due("31 burnt 359 days ago", x.square(0, 2), 0);
        x.pass(1);
        Check.due("31 burnt 360 days ago", x.square(0, 2), 4);
        passDays(x, 259);
        x.rain(60);
        x.pass(1);
        Check.due("19 grows again", x.square(0, 0), 46);
    }

    private static void birds() {
        Peatland x = new Peatland();
        x.rain(19);
        Check.due("31 water of 59 is not wet", x.square(55, 2), 0);
        x.rain(1);
        Check.due("31 in the middle", x.square(55, 2), 9);
        Check.due("31 at a side", x.square(50, 2), 6);
        Check.due("31 at the other side", x.square(59, 2), 6);
        Check.due("31 above", x.square(4, 2), 6);
        Check.due("31 below", x.square(94, 2), 6);
        Check.due("31 in a corner", x.square(0, 2), 4);
        Check.due("31 in a corner", x.square(9, 2), 4);
        Check.due("31 in a corner", x.square(90, 2), 4);
        Check.due("31 in a corner", x.square(99, 2), 4);
        x.dig(55, 54);
        x.pass(1);
        Check.due("31 it is not wet itself", x.square(55, 2), 8);
        Check.due("31 a neighbour is not", x.square(44, 2), 8);
        Check.due("31 no neighbour of it", x.square(57, 2), 9);
        Check.due("31 a neighbour is not", x.square(56, 2), 8);
    }

    private static void birdsNeedPeat() {
        Peatland x = new Peatland();
        x.grant(0, 0, 99, 0);
        x.rain(60);
        x.cut(0, 55, 20);
        x.cut(0, 55, 20);
        Check.due("31 peat of 10", x.square(55, 2), 9);
        x.cut(0, 55, 1);
        Check.due("31 peat of 9", x.square(55, 2), 0);
        Check.due("31 its neighbours", x.square(54, 2), 9);
    }

    private static void payments() {
        Peatland x = new Peatland();
        x.grant(0, 0, 11, 3);
        x.grant(0, 99, 99, 3);
        x.grant(0, 55, 55, 4);
        passDays(x, 359);
        x.rain(60);
        Check.due("33 not yet", x.paid(3), 0);
        x.pass(1);
        Check.due("33 2 a square, and the birds", x.paid(3), 5 * 2 + 4 + 6 + 6 + 9 + 4);
        Check.due("33 another person", x.paid(4), 2 + 9);
        Check.due("33 without parcels", x.paid(5), 0);
        passDays(x, 359);
        x.die(4);
        x.rain(60);
        x.pass(1);
        Check.due("33 in all", x.paid(3), 2 * (5 * 2 + 4 + 6 + 6 + 9 + 4));
        Check.due("33 the dead keep what they were paid", x.paid(4), 11);
    }

    private static void paymentsOfTheYear() {
        Peatland x = new Peatland();
        x.grant(0, 55, 55, 4);
        x.cut(4, 55, 20);
        x.cut(4, 55, 20);
        x.cut(4, 55, 1);
        passDays(x, 359);
        x.rain(60);
        Check.due("31 no birds with peat of 9", x.square(55, 2), 0);
        x.pass(1);
        Check.due("31 birds with peat of 10", x.square(55, 2), 9);
        Check.due("33 after the peat has grown", x.paid(4), 2 + 9);
        Peatland y = new Peatland();
        y.grant(0, 55, 55, 4);
        passDays(y, 359);
        y.rain(60);
        y.dig(55, 54);
        y.pass(1);
        Check.due("33 birds of one that is not wet", y.paid(4), 8);
        Check.due("33 and no peat", y.square(55, 0), 50);
    }

    private static void drainsAheadOfTheYear() {
        Peatland x = new Peatland();
        x.grant(0, 0, 0, 1);
        x.register(Peatland.GRAZE, 1, 2, 2);
        x.graze(2, 1, 2);
        x.grant(1, 0, 0, 3);
        x.grant(0, 9, 9, 1);
        x.register(Peatland.GRAZE, 3, 2, 2);
        x.graze(2, 3, 2);
        x.merge(1, 3);
        passDays(x, 359);
        int peat = x.square(9, 0);
        Check.due("19 crowded for 359 days", peat, 0);
        x.rain(60);
        x.dig(9, 8);
        x.pass(1);
        Check.due("19 drains run ahead of the growth", x.square(9, 0), 0);
        passDays(x, 359);
        x.fill(0);
        x.rain(60);
        x.pass(1);
        Check.due("19 sheep tread ahead of the growth", x.square(9, 0), 1);
        Check.due("19 and on the next day", x.square(9, 0) - x.pass(1) + 721, 1);
        Check.due("19 then", x.square(9, 0), 0);
    }

    private static void askedRefused() {
        Peatland x = new Peatland();
        Check.outOfBounds("31 below", () -> x.square(-1, 0));
        Check.outOfBounds("31 above", () -> x.square(100, 0));
        Check.outOfBounds("31 what below", () -> x.square(0, -1));
        Check.outOfBounds("31 what above", () -> x.square(0, 4));
        Check.outOfBounds("32 what below", () -> x.water(-1));
        Check.outOfBounds("32 what above", () -> x.water(4));
        Check.outOfBounds("33 below", () -> x.paid(-1));
        Check.outOfBounds("33 above", () -> x.paid(12));
    }
}
