/** The sentences of Terms on rights, water, peat, fire, days and heirs that name a boundary; each has a test. */
final class TermsNatureTest {
    private TermsNatureTest() {
    }

    public static void main(String[] args) {
        eightyRights();
        kindsOfRights();
        rightsAreNumbered();
        roomOfTwoSheep();
        worthOfShares();
        worthIsNeverNegative();
        sheepUpToTheirWorth();
        rainRunsOff();
        twentyDrains();
        drainsShareASide();
        drainTakesAQuarter();
        drainToAFullSquare();
        ownersCutAndBurn();
        rightsToCutAndBurn();
        stateByRightsAlone();
        burntByTheWind();
        burntByTheWater();
        burntByTheDay();
        burntAfterRest();
        burntLosesWhatItHas();
        wetFromSixty();
        birdsCountWetSquares();
        noBirdsOverFire();
        noBirdsWithoutPeat();
        drainsInOrder();
        driesFrom120();
        driesBelow240();
        driesToNothing();
        sheepAsManyAsRoom();
        sheepOfTheFirstAndTheLastParcel();
        lowestSquareWithPeat();
        growsAsAYearBegins();
        sheepTreadAheadOfTheGrowth();
        growsNotOverFire();
        growsAbove100();
        paidAsAYearBegins();
        paidAfterTheGrowth();
        deadAreNotPaid();
        threeHeirs();
        parcelsInTurns();
        livingHeirsAlone();
        withoutHeirToTheState();
        whatEndsWithAPerson();
        openCasesByRisingNumbers();
        Check.end("TermsNatureTest");
    }

    /** Moor of the person 0 in dry weather: from the day 160 of a year on no square has water. */
    private static Peatland dry(int day) {
        Peatland x = new Peatland();
        x.grant(0, 0, 99, 0);
        Scene.passDays(x, day);
        return x;
    }

    // Terms, promise 10: "A right, of which there can be 80, those that ended too"
    private static void eightyRights() {
        Peatland x = new Peatland();
        Scene.addEndedRights(x, 79);
        Check.due("the last right", x.register(Peatland.CUT, 0, 0, 0), 79);
        x.release(79);
        Check.badState("no right 81", () -> x.register(Peatland.CUT, 0, 0, 0));
        Check.due("it is there", x.rightAt(79, 0), -1);
        Check.outOfBounds("none behind it", () -> x.rightAt(80, 0));
    }

    // Terms, promise 10: "is of a kind, 0 GRAZE, 1 CUT or 2 BURN, on a parcel, for a person; GRAZE has shares"
    private static void kindsOfRights() {
        Peatland x = new Peatland();
        x.register(0, 0, 4, 7);
        x.register(1, 0, 4, 7);
        x.register(2, 0, 4, 7);
        for (int kind = 0; kind < 3; kind++) {
            Check.due("kind", x.rightAt(kind, 0), kind);
            Check.due("worth", x.rightAt(kind, 3), kind == 0 ? 7 : 0);
        }
    }

    // Terms, promise 10: "Rights are numbered as they are registered, or come to new parcels."
    private static void rightsAreNumbered() {
        Peatland x = new Peatland();
        Check.due("the first", x.register(Peatland.CUT, 0, 0, 0), 0);
        Check.due("the next", x.register(Peatland.CUT, 0, 1, 0), 1);
        x.grant(0, 0, 0, 2);
        Check.due("those that come to a new parcel", x.rightAt(2, 4) + 10 * x.rightAt(3, 4), 10);
        x.grant(0, 1, 1, 2);
        x.register(Peatland.BURN, 1, 1, 0);
        x.merge(1, 2);
        Check.due("the one that came by a merge", x.rightAt(7, 4), 6);
        Check.due("behind them", x.register(Peatland.BURN, 0, 0, 0), 8);
    }

    // Terms, promise 30: "A parcel has room for 2 sheep on each of its squares."
    private static void roomOfTwoSheep() {
        Peatland x = new Peatland();
        x.register(Peatland.GRAZE, 0, 1, 99);
        x.grant(0, 0, 0, 0);
        Check.due("one square", x.rightAt(1, 3), 2);
        x.grant(0, 10, 19, 0);
        Check.due("ten squares", x.rightAt(2, 3), 20);
        x.grant(2, 10, 19, 0);
        Check.due("no square", x.rightAt(2, 3), 0);
        Check.due("89 squares", x.rightAt(0, 3), 99);
    }

    // Terms, promise 30: "What a right of GRAZE is worth is its shares, but at most that room less the shares of all rights of GRAZE on the parcel with lesser numbers"
    private static void worthOfShares() {
        Peatland x = new Peatland();
        x.grant(0, 0, 9, 0);
        x.register(Peatland.CUT, 1, 1, 99);
        x.register(Peatland.GRAZE, 0, 1, 99);
        x.register(Peatland.GRAZE, 1, 1, 12);
        x.register(Peatland.GRAZE, 1, 2, 8);
        Check.due("as much as the room", x.rightAt(3, 3), 8);
        x.release(3);
        x.register(Peatland.GRAZE, 1, 2, 9);
        Check.due("more than the room", x.rightAt(4, 3), 8);
        Check.due("greater numbers take nothing", x.rightAt(2, 3), 12);
        x.release(2);
        Check.due("ended ones take nothing", x.rightAt(4, 3), 9);
        x.register(Peatland.GRAZE, 1, 1, 12);
        Check.due("a new one has the last place", x.rightAt(5, 3), 11);
    }

    // Terms, promise 30: "and at least 0"
    private static void worthIsNeverNegative() {
        Peatland x = new Peatland();
        x.grant(0, 0, 0, 0);
        x.register(Peatland.GRAZE, 1, 1, 2);
        x.register(Peatland.GRAZE, 1, 2, 99);
        x.register(Peatland.GRAZE, 1, 3, 99);
        Check.due("no room is left", x.rightAt(1, 3), 0);
        Check.due("less than none", x.rightAt(2, 3), 0);
        Check.due("no sheep", x.graze(3, 1, 0), 0);
        Check.badState("nor one", () -> x.graze(3, 1, 1));
    }

    // Terms, promise 12: "Each person can have sheep on a parcel, up to what the person's rights there are worth together by then."
    private static void sheepUpToTheirWorth() {
        Peatland x = new Peatland();
        x.grant(0, 0, 4, 0);
        x.register(Peatland.GRAZE, 1, 1, 7);
        x.register(Peatland.GRAZE, 1, 2, 7);
        Check.badState("more than worth", () -> x.graze(2, 1, 4));
        Check.due("as many as worth", x.graze(2, 1, 3), 0);
        x.release(0);
        Check.due("by then worth more", x.graze(2, 1, 7), 3);
        x.grant(1, 0, 3, 0);
        Check.due("they stay when it is worth less", x.sheep(2, 1), 7);
        Check.badState("but can't be set so", () -> x.graze(2, 1, 7));
        Check.due("as many as worth by then", x.graze(2, 1, 2), 7);
    }

    // Terms, promise 13: "Rain gives each square as much, but what would be above 100 runs off."
    private static void rainRunsOff() {
        Peatland x = Scene.wetOnly(44, 45);
        x.rain(38);
        Check.due("up to 100", x.square(45, 1), 100);
        Check.due("nothing ran off", x.water(2), 0);
        Check.due("1 above", x.rain(1), 1);
        Check.due("stays", x.square(45, 1), 100);
        Check.due("another one", x.square(46, 1), 79);
        Check.due("others up to 100", x.rain(21), 21);
        Check.due("another one", x.square(46, 1), 100);
        Check.due("the last one has 78", x.rain(60), 99 * 60 + 38);
        Check.due("all is full", x.water(0), 10000);
        Check.due("the sums", 4000 + x.water(1) - x.water(2), 10000);
    }

    // Terms, promise 14: "A drain, of which there can be 20"
    private static void twentyDrains() {
        Peatland x = new Peatland();
        for (int i = 1; i < 20; i++) {
            x.dig(i, i + 10);
        }
        Check.due("the last drain", x.dig(50, 60), 20);
        Check.badState("no drain 21", () -> x.dig(60, 50));
        x.pass(1);
        Check.due("the last one runs", x.square(60, 1), 50);
    }

    // Terms, promise 14: "goes from a square to one that shares a side with it"
    private static void drainsShareASide() {
        Peatland x = new Peatland();
        x.dig(55, 54);
        x.dig(55, 56);
        x.dig(55, 45);
        Check.due("four sides", x.dig(55, 65), 4);
        int[] others = {55, 44, 46, 64, 66, 53, 57, 35, 75};
        for (int each : others) {
            Check.badArgument("no side with " + each, () -> x.dig(55, each));
        }
        Check.badArgument("the end of a row and the next one", () -> x.dig(19, 20));
        Check.badArgument("and back", () -> x.dig(20, 19));
        Check.badArgument("the first and the last one", () -> x.dig(0, 99));
    }

    // Terms, promise 19: "On each day it takes the water of the former, divided by 4"
    // Terms, promise 19: "All divisions are rounded down."
    private static void drainTakesAQuarter() {
        Peatland x = new Peatland();
        x.dig(0, 1);
        int[] left = {30, 23, 18, 14, 11, 9, 7, 6, 5, 4, 3, 3};
        for (int i = 0; i < left.length; i++) {
            x.pass(1);
            Check.due("left on the day " + (i + 1), x.square(0, 1), left[i]);
            Check.due("the rest went", x.square(1, 1), 80 - left[i]);
        }
    }

    // Terms, promise 19: "but no more than the latter has room for up to 100"
    private static void drainToAFullSquare() {
        Peatland x = Scene.wetOnly(44, 45);
        x.fill(0);
        x.dig(46, 45);
        x.rain(28);
        Check.due("room for 10", x.square(45, 1), 90);
        x.pass(1);
        Check.due("it takes 10 of 17", x.square(45, 1), 100);
        Check.due("the rest stays", x.square(46, 1), 58);
        x.pass(1);
        Check.due("it takes none", x.square(46, 1), 58);
        Check.due("none is lost", x.water(0), 6800);
    }

    // Terms, promises 16 and 18: "The owner of the parcel of a square can cut and burn it"
    private static void ownersCutAndBurn() {
        Peatland x = dry(129);
        x.grant(1, 0, 0, 2);
        Check.badState("no more its owner, cut", () -> x.cut(0, 0, 1));
        Check.badState("no more its owner, burn", () -> x.burn(0, 0));
        Check.due("cut", x.cut(2, 0, 1), 49);
        Check.due("burn", x.burn(2, 0), 44);
        Check.due("cut the others", x.cut(0, 99, 1), 49);
        Check.due("burn the others", x.burn(0, 99), 44);
    }

    // Terms, promises 16 and 18: "who has a right of CUT on the parcel can cut, who has one of BURN can burn"
    private static void rightsToCutAndBurn() {
        Peatland x = dry(129);
        x.register(Peatland.CUT, 1, 4, 0);
        x.register(Peatland.BURN, 1, 5, 0);
        x.register(Peatland.GRAZE, 1, 6, 9);
        Check.due("CUT cuts", x.cut(4, 0, 1), 49);
        Check.badState("CUT burns not", () -> x.burn(4, 1));
        Check.due("BURN burns", x.burn(5, 1), 45);
        Check.badState("BURN cuts not", () -> x.cut(5, 0, 1));
        Check.badState("GRAZE cuts not", () -> x.cut(6, 0, 1));
        Check.badState("GRAZE burns not", () -> x.burn(6, 0));
        x.grant(1, 9, 9, 0);
        x.release(0);
        Check.badState("an ended one cuts not", () -> x.cut(4, 0, 1));
        Check.due("the one on the new parcel stays", x.cut(4, 9, 1), 49);
    }

    // Terms, promises 16 and 18: "a parcel of the state can be cut and burnt by those with rights alone"
    private static void stateByRightsAlone() {
        Peatland x = new Peatland();
        x.register(Peatland.CUT, 0, 4, 0);
        x.register(Peatland.BURN, 0, 5, 0);
        Scene.passDays(x, 129);
        for (int p = 0; p < 12; p++) {
            int person = p;
            if (p == 4) {
                Check.due("who has CUT", x.cut(4, 0, 1), 49);
            } else {
                Check.badState("cut without CUT", () -> x.cut(person, 0, 1));
            }
            if (p == 5) {
                Check.due("who has BURN", x.burn(5, 1), 45);
            } else {
                Check.badState("burn without BURN", () -> x.burn(person, 2));
            }
        }
    }

    // Terms, promise 18: "A square can be burnt if the wind, 0 to 9, 0 at first, is at most 3"
    private static void burntByTheWind() {
        Peatland x = dry(140);
        Check.due("0 at first", x.burn(0, 0), 45);
        x.wind(4);
        Check.badState("the wind is 4", () -> x.burn(0, 1));
        x.wind(9);
        Check.badState("the wind is 9", () -> x.burn(0, 1));
        x.wind(3);
        Check.due("the wind is 3", x.burn(0, 1), 45);
    }

    // Terms, promise 18: "its water is at most 30"
    private static void burntByTheWater() {
        Peatland x = dry(130);
        x.rain(2);
        Check.due("water", x.square(0, 1), 31);
        Check.badState("its water is 31", () -> x.burn(0, 0));
        x.pass(1);
        Check.due("water", x.square(0, 1), 30);
        Check.due("its water is 30", x.burn(0, 0), 45);
    }

    // Terms, promise 18: "today is at least 60 and at most 150 in its year"
    private static void burntByTheDay() {
        Peatland x = dry(360 + 59);
        Check.badState("59", () -> x.burn(0, 0));
        x.pass(1);
        Check.due("60", x.burn(0, 0), 45);
        x.pass(90);
        Check.due("150", x.burn(0, 1), 45);
        x.pass(1);
        Check.badState("151", () -> x.burn(0, 2));
        Peatland y = dry(360);
        Check.badState("the first day of a year", () -> y.burn(0, 0));
        Peatland z = dry(359);
        Check.badState("the last day of a year", () -> z.burn(0, 0));
    }

    // Terms, promise 18: "and it was not burnt in the last 1080 days"
    // Terms, promise 18: "(A day is in the last n days if fewer than n have passed since.)"
    private static void burntAfterRest() {
        Peatland x = dry(360 + 80);
        x.burn(0, 0);
        Check.badState("0 have passed", () -> x.burn(0, 0));
        Scene.passDays(x, 1079);
        Check.badState("1079 have passed", () -> x.burn(0, 0));
        Check.due("another square", x.burn(0, 1), 45);
        x.pass(1);
        Check.due("1080 have passed", x.burn(0, 0), 40);
        Check.badState("since the last one", () -> x.burn(0, 0));
    }

    // Terms, promise 18: "it loses 5 of its peat, or what it has"
    private static void burntLosesWhatItHas() {
        for (int peat = 0; peat <= 7; peat++) {
            Peatland x = dry(140);
            x.cut(0, 0, 20);
            x.cut(0, 0, 20);
            if (peat < 10) {
                x.cut(0, 0, 10 - peat);
            }
            Check.due("peat", x.square(0, 0), peat);
            Check.due("left of " + peat, x.burn(0, 0), peat < 5 ? 0 : peat - 5);
            Check.badState("burnt with " + peat, () -> x.burn(0, 0));
        }
    }

    // Terms, promise 31: "A square is wet if its water is 60 or more."
    private static void wetFromSixty() {
        Peatland x = new Peatland();
        x.rain(19);
        Check.due("59", x.square(0, 2), 0);
        x.rain(1);
        Check.due("60", x.square(0, 2), 4);
        x.rain(40);
        Check.due("100", x.square(0, 2), 4);
    }

    // Terms, promise 31: "Its birds are how many squares of it and its neighbours are wet"
    private static void birdsCountWetSquares() {
        Peatland x = Scene.wetOnly(44, 45);
        Check.due("itself alone", x.square(45, 2), 1);
        Check.due("a neighbour alone", x.square(44, 2), 1);
        Check.due("none", x.square(43, 2), 0);
        x.rain(20);
        Check.due("all but one", x.square(45, 2), 8);
        x.rain(22);
        Check.due("all", x.square(45, 2), 9);
        Check.due("at a side", x.square(49, 2), 6);
        Check.due("in a corner", x.square(99, 2), 4);
    }

    // Terms, promise 31: "0 if it was burnt in the last 360 days"
    private static void noBirdsOverFire() {
        Peatland x = dry(140);
        x.burn(0, 55);
        x.rain(60);
        Check.due("0 days ago", x.square(55, 2), 0);
        Check.due("a neighbour", x.square(54, 2), 9);
        Scene.passDays(x, 359);
        x.rain(60);
        x.rain(60);
        Check.due("359 days ago", x.square(55, 2), 0);
        x.pass(1);
        Check.due("360 days ago", x.square(55, 2), 9);
    }

    // Terms, promise 31: "or has less than 10 of peat"
    private static void noBirdsWithoutPeat() {
        Peatland x = new Peatland();
        x.grant(0, 0, 99, 0);
        x.rain(20);
        x.cut(0, 55, 20);
        x.cut(0, 55, 20);
        Check.due("10 of peat", x.square(55, 2), 9);
        x.cut(0, 55, 1);
        Check.due("9 of peat", x.square(55, 2), 0);
        x.cut(0, 55, 9);
        Check.due("none", x.square(55, 2), 0);
        Check.due("a neighbour", x.square(56, 2), 9);
    }

    // Terms, promise 19: "1. Today becomes the next day. Drains run, in order."
    private static void drainsInOrder() {
        Peatland x = new Peatland();
        x.dig(1, 2);
        x.dig(0, 1);
        x.dig(10, 11);
        x.dig(11, 12);
        Check.due("the next day", x.pass(1), 1);
        Check.due("the first one takes what was there", x.square(2, 1), 50);
        Check.due("the second one gives then", x.square(1, 1), 40);
        Check.due("what came is taken on", x.square(11, 1), 38);
        Check.due("a quarter of 50", x.square(12, 1), 52);
        Peatland y = new Peatland();
        Scene.passDays(y, 119);
        y.dig(55, 54);
        y.pass(1);
        Check.due("a quarter of 40, and then it dries", y.square(55, 1), 29);
        Check.due("to there, and then it dries", y.square(54, 1), 49);
    }

    // Terms, promise 19: "2. If today is at least 120 and below 240 in its year, each square that has water loses 1: it dries."
    private static void driesFrom120() {
        Peatland x = new Peatland();
        Scene.passDays(x, 119);
        Check.due("119", x.water(0), 4000);
        x.pass(1);
        Check.due("120", x.water(0), 3900);
        Check.due("dried", x.water(3), 100);
        Scene.passDays(x, 360 + 119 - 120);
        x.rain(5);
        Check.due("119 of the next year", x.water(0), 500);
        x.pass(1);
        Check.due("120 of the next year", x.water(0), 400);
    }

    // Terms, promise 19: "2. If today is at least 120 and below 240 in its year, each square that has water loses 1: it dries."
    private static void driesBelow240() {
        Peatland x = new Peatland();
        Scene.passDays(x, 238);
        x.rain(2);
        x.pass(1);
        Check.due("239", x.water(0), 100);
        x.pass(1);
        Check.due("240", x.water(0), 100);
        Scene.passDays(x, 120);
        Check.due("a year begins", x.water(0), 100);
    }

    // Terms, promise 19: "2. If today is at least 120 and below 240 in its year, each square that has water loses 1: it dries."
    private static void driesToNothing() {
        Peatland x = Scene.wetOnly(44, 45);
        Scene.passDays(x, 119 - 3);
        x.fill(0);
        int poor = x.square(44, 1);
        int rich = x.square(45, 1);
        Check.due("what no quarter is of", poor, 3);
        Scene.passDays(x, poor);
        Check.due("the last of it", x.square(44, 1), 0);
        x.pass(1);
        Check.due("nothing more", x.square(44, 1), 0);
        Check.due("others lose", x.square(45, 1), rich - poor - 1);
        Check.due("dried", x.water(3), 100 * poor + 99);
    }

    // Terms, promise 19: "3. Of each parcel with more sheep than it has room for, the lowest square that has peat loses 1 of it."
    private static void sheepAsManyAsRoom() {
        Peatland x = new Peatland();
        x.grant(0, 0, 1, 0);
        x.register(Peatland.GRAZE, 1, 4, 3);
        x.register(Peatland.GRAZE, 1, 5, 1);
        x.graze(4, 1, 3);
        x.graze(5, 1, 1);
        x.pass(100);
        Check.due("as many", x.square(0, 0), 50);
        x.grant(1, 0, 0, 0);
        x.graze(5, 1, 0);
        x.pass(1);
        Check.due("1 more", x.square(1, 0), 49);
        Check.due("not the other parcel's", x.square(0, 0), 50);
        x.graze(4, 1, 2);
        x.pass(1);
        Check.due("as many again", x.square(1, 0), 49);
    }

    // Terms, promise 19: "3. Of each parcel with more sheep than it has room for, the lowest square that has peat loses 1 of it."
    private static void sheepOfTheFirstAndTheLastParcel() {
        Peatland x = Scene.fortyParcels();
        x.register(Peatland.GRAZE, 0, 1, 99);
        x.register(Peatland.GRAZE, 39, 2, 2);
        x.graze(1, 0, 99);
        x.graze(2, 39, 2);
        x.register(Peatland.GRAZE, 24, 2, 2);
        x.graze(2, 24, 2);
        x.pass(1);
        Check.due("room for all", x.square(0, 0) + x.square(39, 0) + x.square(24, 0), 150);
        Peatland y = new Peatland();
        y.register(Peatland.GRAZE, 0, 1, 99);
        y.graze(1, 0, 99);
        y.grant(0, 1, 69, 5);
        y.pass(1);
        Check.due("the state's too", y.square(0, 0), 49);
        Check.due("one square of it", y.square(10, 0), 50);
    }

    // Terms, promise 19: "3. Of each parcel with more sheep than it has room for, the lowest square that has peat loses 1 of it."
    private static void lowestSquareWithPeat() {
        Peatland x = new Peatland();
        x.grant(0, 55, 66, 0);
        x.register(Peatland.GRAZE, 1, 4, 8);
        x.graze(4, 1, 8);
        x.grant(1, 55, 55, 0);
        x.cut(0, 56, 20);
        x.cut(0, 56, 20);
        x.cut(0, 56, 8);
        x.pass(1);
        Check.due("the lowest one", x.square(56, 0), 1);
        x.pass(1);
        Check.due("its last peat", x.square(56, 0), 0);
        Check.due("not the next one", x.square(65, 0), 50);
        x.pass(1);
        Check.due("the lowest that has peat", x.square(65, 0), 49);
        Check.due("not the last one", x.square(66, 0), 50);
        Scene.passDays(x, 99);
        Check.due("all of it", x.square(65, 0) + x.square(66, 0), 0);
        x.pass(1);
        Check.due("none is left to lose", x.square(66, 0), 0);
        Check.due("that of others stays", x.square(55, 0), 50);
    }

    // Terms, promise 19: "4. If a year begins, each wet square that was not burnt in the last 360 days gets 1 of peat"
    private static void growsAsAYearBegins() {
        Peatland x = new Peatland();
        Scene.passDays(x, 359);
        x.rain(60);
        Check.due("the day ahead", x.square(0, 0), 50);
        x.pass(1);
        Check.due("a year begins", x.square(0, 0), 51);
        x.pass(1);
        Check.due("the day behind", x.square(0, 0), 51);
        Peatland y = new Peatland();
        Scene.passDays(y, 359);
        y.rain(59);
        y.pass(1);
        Check.due("not wet", y.square(0, 0), 50);
    }

    // Terms, promise 19: "3. Of each parcel with more sheep than it has room for, the lowest square that has peat loses 1 of it."
    // Terms, promise 19: "4. If a year begins, each wet square that was not burnt in the last 360 days gets 1 of peat"
    private static void sheepTreadAheadOfTheGrowth() {
        Peatland x = new Peatland();
        x.grant(0, 0, 1, 0);
        x.register(Peatland.GRAZE, 1, 4, 4);
        x.graze(4, 1, 4);
        x.grant(1, 1, 1, 0);
        Scene.passDays(x, 359);
        Check.due("none is left", x.square(0, 0), 0);
        x.rain(60);
        x.pass(1);
        Check.due("none to lose, and then it grows", x.square(0, 0), 1);
        x.pass(1);
        Check.due("on the next day it is lost", x.square(0, 0), 0);
    }

    // Terms, promise 19: "4. If a year begins, each wet square that was not burnt in the last 360 days gets 1 of peat"
    private static void growsNotOverFire() {
        Peatland x = dry(150);
        x.burn(0, 0);
        Scene.passDays(x, 209);
        x.rain(60);
        x.pass(1);
        Check.due("burnt 210 days ago", x.square(0, 0), 45);
        Check.due("another one", x.square(1, 0), 51);
        Scene.passDays(x, 359);
        x.rain(60);
        x.pass(1);
        Check.due("burnt 570 days ago", x.square(0, 0), 46);
    }

    // Terms, promise 19: "up to 200"
    private static void growsAbove100() {
        Peatland x = new Peatland();
        for (int year = 1; year <= 55; year++) {
            x.pass(200);
            x.pass(150);
            x.rain(60);
            x.pass(10);
            Check.due("peat after years", x.square(0, 0), 50 + year);
        }
        Check.due("as many years as days allow: 200 is never reached", x.today(), 19800);
        Check.due("birds", x.square(0, 2), 4);
    }

    // Terms, promise 33: "then each person who is alive is paid 2 for each wet square of the person's parcels, and 1 for each bird on all of their squares, wet or not"
    private static void paidAsAYearBegins() {
        Peatland x = new Peatland();
        x.grant(0, 0, 0, 3);
        x.grant(0, 99, 99, 3);
        x.grant(0, 45, 45, 4);
        x.dig(45, 46);
        Scene.passDays(x, 359);
        x.rain(60);
        x.pass(1);
        Check.due("both parcels", x.paid(3), 2 * (2 + 4));
        Check.due("birds of one that is not wet", x.paid(4), 8);
        Check.due("without parcels", x.paid(5), 0);
        Scene.passDays(x, 360);
        Check.due("a dry year", x.paid(3), 12);
    }

    // Terms, promise 33: "then each person who is alive is paid 2 for each wet square of the person's parcels, and 1 for each bird on all of their squares, wet or not"
    private static void paidAfterTheGrowth() {
        Peatland x = new Peatland();
        x.grant(0, 0, 99, 3);
        x.cut(3, 55, 20);
        x.cut(3, 55, 20);
        x.cut(3, 55, 1);
        Scene.passDays(x, 359);
        x.rain(60);
        Check.due("no birds yet", x.square(55, 2), 0);
        x.pass(1);
        Check.due("all squares: 64 inside, 32 at sides, 4 in corners",
            x.paid(3), 200 + 64 * 9 + 32 * 6 + 4 * 4);
    }

    // Terms, promise 33: "then each person who is alive is paid"
    private static void deadAreNotPaid() {
        Peatland x = new Peatland();
        x.grant(0, 0, 0, 3);
        x.name(3, 4);
        Scene.passDays(x, 359);
        x.rain(60);
        x.die(3);
        x.pass(1);
        Check.due("the dead", x.paid(3), 0);
        Check.due("the heir", x.paid(4), 6);
    }

    // Terms, promise 20: "A person can name heirs, at most 3, others who are alive."
    private static void threeHeirs() {
        Peatland x = new Peatland();
        Check.due("1", x.name(0, 11), 1);
        Check.due("2", x.name(0, 10), 2);
        Check.due("3", x.name(0, 9), 3);
        Check.badState("4", () -> x.name(0, 8));
        Check.badState("no other", () -> x.name(1, 1));
        x.die(11);
        Check.badState("not alive", () -> x.name(1, 11));
        Check.badState("a dead heir stays named", () -> x.name(0, 8));
    }

    // Terms, promise 21: "When a person dies, the parcels go, by rising numbers, to the heirs who are alive, in turns, in the order in which they were named"
    private static void parcelsInTurns() {
        Peatland x = new Peatland();
        for (int i = 1; i <= 7; i++) {
            x.grant(0, i, i, i == 3 ? 9 : 0);
        }
        x.merge(1, 5);
        x.grant(4, 4, 4, 9);
        x.name(0, 8);
        x.name(0, 2);
        x.name(0, 5);
        Check.due("those that were not merged, also without squares", x.die(0), 5);
        int[] owners = {-1, 5, 8, 9, 2, 5, 8, 2, 9};
        for (int i = 0; i < owners.length; i++) {
            Check.due("owner of " + i, x.owner(i), owners[i]);
        }
    }

    // Terms, promise 21: "to the heirs who are alive"
    private static void livingHeirsAlone() {
        Peatland x = new Peatland();
        for (int i = 1; i <= 3; i++) {
            x.grant(0, i, i, 0);
        }
        x.name(0, 1);
        x.name(0, 2);
        x.name(0, 3);
        x.die(1);
        x.die(3);
        Check.due("all to the one", x.die(0), 3);
        Check.due("the first", x.owner(1), 2);
        Check.due("the last", x.owner(3), 2);
    }

    // Terms, promise 21: "without one to the state"
    private static void withoutHeirToTheState() {
        Peatland x = new Peatland();
        x.grant(0, 1, 1, 0);
        x.grant(0, 2, 2, 1);
        Check.due("none named", x.die(0), 0);
        Check.due("to the state", x.owner(1), Peatland.NONE);
        x.name(1, 2);
        x.die(2);
        Check.due("none alive", x.die(1), 0);
        Check.due("to the state", x.owner(2), Peatland.NONE);
        Check.due("and both can be merged", x.merge(1, 2), 2);
    }

    // Terms, promise 21: "Then the person's rights, sheep, maps and uses end"
    private static void whatEndsWithAPerson() {
        Peatland x = new Peatland();
        x.grant(0, 0, 9, 1);
        x.register(Peatland.GRAZE, 0, 5, 10);
        x.register(Peatland.GRAZE, 0, 6, 10);
        x.register(Peatland.CUT, 1, 5, 0);
        x.graze(5, 0, 10);
        x.graze(6, 0, 10);
        x.survey(5, 0, 99);
        x.survey(6, 0, 0);
        x.use(5, 0, 99);
        x.use(6, 99, 99);
        x.die(5);
        Check.due("rights", x.rightAt(0, 0) + x.rightAt(2, 0), -2);
        Check.due("another one's right", x.rightAt(1, 3), 10);
        Check.due("sheep", x.sheep(5, 0), 0);
        Check.due("another one's sheep", x.sheep(6, 0), 10);
        Check.due("maps", x.disputed(1), 0);
        Check.due("another one's map", x.disputed(0), 1);
        Check.due("uses", x.square(0, 3), Peatland.NONE);
        Check.due("another one's use", x.square(99, 3), 6);
    }

    // Terms, promise 21: "and then the person's cases that are OPEN are REFUSED, by rising numbers"
    private static void openCasesByRisingNumbers() {
        Peatland x = new Peatland();
        x.name(3, 4);
        Scene.mapped(x, 3, 0, 1);
        Scene.mapped(x, 3, 1, 2);
        Scene.mapped(x, 3, 9, 9);
        Scene.mapped(x, 5, 20, 20);
        Scene.win(x, 0);
        x.grant(1, 1, 1, 7);
        Scene.win(x, 1);
        Scene.win(x, 2);
        x.appeal(1);
        x.appeal(0);
        x.die(3);
        Check.due("the case 0", x.caseAt(0, 0), Peatland.REFUSED);
        Check.due("the case 1", x.caseAt(1, 0), Peatland.REFUSED);
        Check.due("a GRANTED one stays", x.caseAt(2, 0), Peatland.GRANTED);
        Check.due("and gives", x.caseAt(2, 3), 1);
        Check.due("another one's is OPEN", x.caseAt(3, 0), Peatland.OPEN);
        Check.due("back from the first", x.parcelOf(0), 0);
        Check.due("back from the second, which took it last", x.parcelOf(1), 2);
        Check.due("back from the second", x.parcelOf(2), 0);
        Check.due("the heir has what stays", x.owner(x.parcelOf(9)), 4);
    }
}
