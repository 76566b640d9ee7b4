/** The sentences of Terms on squares, parcels, maps, use and cases that name a boundary; each has a test. */
final class TermsTest {
    private TermsTest() {
    }

    public static void main(String[] args) {
        lastOf512Calls();
        firstAndLastSquare();
        columnsAndRows();
        fieldWithBothCorners();
        fieldsThatDoNotGoDown();
        fieldsThatGoDown();
        neighboursInTheMiddle();
        neighboursInCorners();
        neighboursDoNotWrapAround();
        peatAndWaterAtFirst();
        eachSquareIsOfOneParcel();
        parcelsToForty();
        ownerIsNoneForTheState();
        parcelZeroAtFirst();
        personsAtFirst();
        dayZeroAtFirst();
        dayTwentyThousand();
        yearsBegin();
        grantTakesItsSquaresAlone();
        grantedRightsInOrder();
        oldParcelWithoutSquares();
        mergeBringsSquaresAndSheep();
        mergeOfEmptyParcels();
        mergeLeavesRightsThatAreThere();
        mergedHasNone();
        mergedIsTakenAsTheOther();
        twelveMaps();
        oneUserAtMost();
        useBeginsOnce();
        sixteenCases();
        caseByMaps();
        caseByUseOf720Days();
        caseAtFirst();
        decidedByMoreEvidence();
        appealKeepsAll();
        grantedTakesFromOthers();
        grantedTakesNone();
        greaterStageAlone();
        stageWhenGrantedLast();
        takenIsRemembered();
        refusedGivesBackWhereverTheyAre();
        refusedAreGivenByNone();
        Check.end("TermsTest");
    }

    // What it is, promises 13 and 6: "An object is used for at most 512 calls after it has been made"
    private static void lastOf512Calls() {
        Peatland x = new Peatland();
        for (int i = 1; i < 512; i++) {
            x.rain(60);
        }
        Check.due("the call 512", x.rain(60), 6000);
        Peatland y = new Peatland();
        y.survey(3, 0, 99);
        for (int i = 2; i < 512; i++) {
            int square = i % 100;
            if (y.use(3, square, square) < 0) {
                Check.due("used squares are not negative", false, true);
            }
        }
        Check.due("the call 512, of a case", y.file(3, false, 0, 99), 0);
    }

    // Terms, promise 24: "Squares are 0 to 99"
    private static void firstAndLastSquare() {
        Peatland x = new Peatland();
        Check.due("the first square", x.parcelOf(0), 0);
        Check.due("the last square", x.parcelOf(99), 0);
        Check.outOfBounds("none below", () -> x.parcelOf(-1));
        Check.outOfBounds("none above", () -> x.parcelOf(100));
    }

    // Terms, promise 2: "the square s is in the column s modulo 10 and the row s / 10"
    // Terms, promise 2: "All divisions are rounded down"
    private static void columnsAndRows() {
        Peatland x = new Peatland();
        Check.due("the column 9", x.area(x.grant(0, 9, 99, 0)), 10);
        Check.due("it has 9", x.parcelOf(9), 1);
        Check.due("it has 89", x.parcelOf(89), 1);
        Check.due("not 10", x.parcelOf(10), 0);
        Check.due("the row 4", x.area(x.grant(0, 40, 48, 0)), 9);
        Check.due("not 39", x.parcelOf(39), 1);
        Check.due("not 38", x.parcelOf(38), 0);
        Check.due("not 50", x.parcelOf(50), 0);
    }

    // Terms, promise 2: "A field is told by two squares: all squares in columns from that of the first one to that of the second one, and in rows likewise, with both"
    private static void fieldWithBothCorners() {
        Peatland x = new Peatland();
        x.grant(0, 23, 57, 4);
        for (int s = 0; s < 100; s++) {
            boolean isIn = s % 10 >= 3 && s % 10 <= 7 && s / 10 >= 2 && s / 10 <= 5;
            Check.due("parcel of " + s, x.parcelOf(s), isIn ? 1 : 0);
        }
        Check.due("all of them", x.area(1), 20);
    }

    // Terms, promise 4: "it is a field if neither goes down"
    private static void fieldsThatDoNotGoDown() {
        Peatland x = new Peatland();
        x.survey(3, 0, 0);
        x.survey(3, 99, 99);
        x.survey(3, 40, 49);
        x.survey(3, 7, 97);
        x.survey(3, 0, 99);
        Check.due("one square, rows, columns and all are fields", x.survey(3, 0, 11), 6);
    }

    // Terms, promise 4: "it is a field if neither goes down"
    private static void fieldsThatGoDown() {
        Peatland x = new Peatland();
        Check.badArgument("a column down", () -> x.survey(3, 1, 0));
        Check.badArgument("a column down, a row up", () -> x.survey(3, 9, 10));
        Check.badArgument("a row down", () -> x.survey(3, 10, 0));
        Check.badArgument("a row down, a column up", () -> x.survey(3, 10, 1));
        Check.badArgument("both down", () -> x.survey(3, 99, 0));
    }

    private static void birdsAround(Peatland x, int wet, int... near) {
        int found = 0;
        for (int s = 0; s < 100; s++) {
            boolean isNear = false;
            for (int each : near) {
                isNear |= each == s;
            }
            Check.due("birds of " + s + " round " + wet, x.square(s, 2), isNear ? 1 : 0);
            found += isNear ? 1 : 0;
        }
        Check.due("squares round " + wet, found, near.length);
    }

    // Terms, promise 31: "Neighbours of a square are those that share a side or a corner with it, at most 8"
    private static void neighboursInTheMiddle() {
        birdsAround(Scene.wetOnly(44, 45), 45, 34, 35, 36, 44, 45, 46, 54, 55, 56);
    }

    // Terms, promise 31: "Neighbours of a square are those that share a side or a corner with it, at most 8"
    private static void neighboursInCorners() {
        birdsAround(Scene.wetOnly(1, 0), 0, 0, 1, 10, 11);
        birdsAround(Scene.wetOnly(8, 9), 9, 8, 9, 18, 19);
        birdsAround(Scene.wetOnly(91, 90), 90, 80, 81, 90, 91);
        birdsAround(Scene.wetOnly(98, 99), 99, 88, 89, 98, 99);
    }

    // Terms, promise 31: "Neighbours of a square are those that share a side or a corner with it, at most 8"
    private static void neighboursDoNotWrapAround() {
        birdsAround(Scene.wetOnly(48, 49), 49, 38, 39, 48, 49, 58, 59);
        birdsAround(Scene.wetOnly(51, 50), 50, 40, 41, 50, 51, 60, 61);
        birdsAround(Scene.wetOnly(3, 4), 4, 3, 4, 5, 13, 14, 15);
        birdsAround(Scene.wetOnly(94, 95), 95, 84, 85, 86, 94, 95, 96);
    }

    // Terms, promise 1: "Each square has peat, 50 at first, and water, 40 at first, and is of one parcel."
    private static void peatAndWaterAtFirst() {
        Peatland x = new Peatland();
        for (int s = 0; s < 100; s++) {
            Check.due("peat of " + s, x.square(s, 0), 50);
            Check.due("water of " + s, x.square(s, 1), 40);
        }
    }

    // Terms, promise 26: "Each square has peat, 50 at first, and water, 40 at first, and is of one parcel."
    private static void eachSquareIsOfOneParcel() {
        Peatland x = Scene.fortyParcels();
        x.merge(12, 24);
        int sum = 0;
        for (int p = 0; p < 40; p++) {
            sum += p == 12 ? 0 : x.area(p);
        }
        Check.due("squares of all parcels", sum, 100);
    }

    // Terms, promise 2: "Parcels are numbered from 0, at most 40"
    private static void parcelsToForty() {
        Peatland x = new Peatland();
        for (int i = 1; i < 40; i++) {
            Check.due("the next number", x.grant(0, i, i, 5), i);
        }
        Check.badState("no number 40", () -> x.grant(0, 50, 50, 5));
        Check.due("the last parcel", x.area(39), 1);
        Check.outOfBounds("no parcel 40", () -> x.area(40));
    }

    // Terms, promise 27: "a parcel has an owner, a person, or none, which is the state"
    private static void ownerIsNoneForTheState() {
        Peatland x = new Peatland();
        x.grant(0, 0, 0, 0);
        x.grant(0, 1, 1, 11);
        Check.due("the state", x.owner(0), -1);
        Check.due("the first person", x.owner(1), 0);
        Check.due("the last person", x.owner(2), 11);
    }

    // Terms, promise 1: "At first there is the parcel 0, of the state, with all squares."
    private static void parcelZeroAtFirst() {
        Peatland x = new Peatland();
        Check.due("one parcel", x.parcels(), 1);
        Check.due("of the state", x.owner(0), Peatland.NONE);
        Check.due("with all squares", x.area(0), 100);
        Check.outOfBounds("no other one", () -> x.area(1));
    }

    // Terms, promise 1: "There are the persons 0 to 11, all alive."
    private static void personsAtFirst() {
        Peatland x = new Peatland();
        for (int p = 0; p < 12; p++) {
            Check.due("person " + p + " is alive", x.name(p, (p + 1) % 12), 1);
        }
        Check.outOfBounds("none below", () -> x.paid(-1));
        Check.outOfBounds("none above", () -> x.paid(12));
    }

    // Terms, promise 1: "Today is the day 0 at first, and at most 20000"
    private static void dayZeroAtFirst() {
        Check.due("today", new Peatland().today(), 0);
    }

    // Terms, promise 19: "Today is the day 0 at first, and at most 20000"
    private static void dayTwentyThousand() {
        Peatland x = new Peatland();
        Scene.passDays(x, 19999);
        Check.due("the last day", x.pass(1), 20000);
        Check.badState("no day after it", () -> x.pass(1));
        Check.due("today stays", x.today(), 20000);
    }

    // Terms, promise 19: "a year has 360 days, and begins on days that are multiples of that"
    private static void yearsBegin() {
        Peatland x = new Peatland();
        x.grant(0, 55, 55, 4);
        x.rain(30);
        x.pass(1);
        Check.due("the day 0 is not passed to", x.paid(4), 0);
        Scene.passDays(x, 356);
        x.rain(60);
        x.rain(60);
        x.pass(2);
        Check.due("not on the day 359", x.paid(4), 0);
        x.pass(1);
        Check.due("on the day 360", x.paid(4), 11);
        x.pass(1);
        Check.due("not on the day 361", x.paid(4), 11);
        Scene.passDays(x, 357);
        x.rain(60);
        x.rain(60);
        x.pass(1);
        Check.due("not on the day 719", x.paid(4), 11);
        x.pass(1);
        Check.due("on the day 720", x.paid(4), 22);
    }

    // Terms, promise 2: "To grant a field of a parcel to a person is to make a new parcel of that person of all squares of the field that are of the parcel."
    private static void grantTakesItsSquaresAlone() {
        Peatland x = new Peatland();
        x.grant(0, 0, 1, 7);
        Check.due("from the state's", x.grant(0, 0, 12, 8), 2);
        Check.due("of the other parcel", x.parcelOf(1), 1);
        Check.due("of the parcel", x.parcelOf(2), 2);
        Check.due("the squares of the field that are of it", x.area(2), 4);
        Check.due("not outside the field", x.parcelOf(13), 0);
        Check.due("owner", x.owner(2), 8);
        Check.due("one square of the parcel is enough", x.grant(1, 1, 99, 9), 3);
        Check.due("that one", x.area(3), 1);
    }

    // Terms, promise 2: "It has the rights of the old one, in their order, each coming from that."
    private static void grantedRightsInOrder() {
        Peatland x = new Peatland();
        x.register(Peatland.BURN, 0, 6, 0);
        x.register(Peatland.GRAZE, 0, 7, 99);
        x.register(Peatland.CUT, 0, 6, 0);
        x.register(Peatland.GRAZE, 0, 5, 2);
        x.release(2);
        x.grant(0, 0, 0, 6);
        int[] from = {0, 1, 3};
        for (int i = 0; i < 3; i++) {
            Check.due("kind of " + i, x.rightAt(4 + i, 0), x.rightAt(from[i], 0));
            Check.due("parcel of " + i, x.rightAt(4 + i, 1), 1);
            Check.due("person of " + i, x.rightAt(4 + i, 2), x.rightAt(from[i], 2));
            Check.due("whence " + i, x.rightAt(4 + i, 4), from[i]);
        }
        Check.outOfBounds("the ended one does not come", () -> x.rightAt(7, 0));
        x.grant(1, 0, 0, 8);
        Check.due("whence from the new one", x.rightAt(7, 4), 4);
    }

    // Terms, promise 2: "(The old one stays, with its rights and sheep, also without squares.)"
    private static void oldParcelWithoutSquares() {
        Peatland x = new Peatland();
        x.grant(0, 0, 0, 1);
        x.register(Peatland.GRAZE, 1, 2, 2);
        x.graze(2, 1, 2);
        x.grant(1, 0, 0, 3);
        Check.due("no square", x.area(1), 0);
        Check.due("its owner", x.owner(1), 1);
        Check.due("its right", x.rightAt(0, 1), 1);
        Check.due("its sheep", x.sheep(2, 1), 2);
        Check.due("no sheep went", x.sheep(2, 2), 0);
        Check.badState("no room for sheep", () -> x.graze(2, 1, 1));
        Check.due("a right on it", x.register(Peatland.CUT, 1, 2, 0), 2);
        x.grant(0, 1, 99, 4);
        x.grant(0, 10, 90, 4);
        Check.due("the parcel 0 too", x.area(0), 0);
        Check.due("of the state", x.owner(0), -1);
    }

    // Terms, promise 3: "To merge a parcel into another one with the same owner is to bring all its squares, its sheep and its rights there"
    private static void mergeBringsSquaresAndSheep() {
        Peatland x = new Peatland();
        x.grant(0, 0, 1, 1);
        x.grant(0, 98, 99, 1);
        x.register(Peatland.GRAZE, 1, 0, 2);
        x.register(Peatland.GRAZE, 1, 11, 2);
        x.register(Peatland.GRAZE, 2, 11, 4);
        x.graze(0, 1, 2);
        x.graze(11, 1, 2);
        x.graze(11, 2, 3);
        Check.due("squares", x.merge(1, 2), 4);
        Check.due("a square", x.parcelOf(0), 2);
        Check.due("sheep of one alone", x.sheep(0, 2), 2);
        Check.due("sheep of both", x.sheep(11, 2), 5);
        Check.due("its right", x.rightAt(3, 2), 0);
        Check.due("there", x.rightAt(3, 1), 2);
    }

    // Terms, promise 3: "To merge a parcel into another one with the same owner is to bring all its squares, its sheep and its rights there"
    private static void mergeOfEmptyParcels() {
        Peatland x = new Peatland();
        x.grant(0, 0, 1, 1);
        x.grant(1, 0, 1, 1);
        Check.due("one without squares", x.merge(1, 2), 2);
        Check.due("a square", x.chain(0, 0), 2);
        Check.due("did not move", x.chain(0, 1), 1);
        x.grant(2, 0, 1, 1);
        Check.due("into one without squares", x.merge(3, 1), 2);
        Check.due("a square", x.chain(0, 0), 2);
        Check.due("moved there", x.chain(0, 1), 3);
        x.grant(0, 5, 5, 1);
        x.grant(2, 0, 1, 4);
        x.grant(4, 5, 5, 4);
        Check.due("both without", x.merge(4, 2), 0);
    }

    // Terms, promise 3: "those rights that the other one does not have, by kinds and persons, in their order, each coming from the one that it was"
    private static void mergeLeavesRightsThatAreThere() {
        Peatland x = new Peatland();
        x.grant(0, 0, 1, 1);
        x.grant(0, 5, 6, 1);
        x.register(Peatland.BURN, 1, 3, 0);
        x.register(Peatland.GRAZE, 1, 3, 4);
        x.register(Peatland.CUT, 1, 3, 0);
        x.register(Peatland.CUT, 1, 4, 0);
        x.register(Peatland.GRAZE, 2, 3, 1);
        x.register(Peatland.GRAZE, 2, 4, 1);
        x.register(Peatland.CUT, 2, 4, 0);
        x.merge(1, 2);
        Check.due("BURN of 3 comes first", x.rightAt(7, 4), 0);
        Check.due("CUT of 3 comes then", x.rightAt(8, 4), 2);
        Check.outOfBounds("GRAZE of 3 and CUT of 4 are there", () -> x.rightAt(9, 0));
        Check.due("the shares of the other one's stay", x.rightAt(4, 3), 1);
    }

    // Terms, promise 3: "the one that was merged has none then, its rights have ended"
    private static void mergedHasNone() {
        Peatland x = new Peatland();
        x.grant(0, 0, 1, 1);
        x.grant(0, 5, 6, 1);
        x.register(Peatland.GRAZE, 1, 3, 4);
        x.graze(3, 1, 4);
        x.merge(1, 2);
        Check.due("its right has ended", x.rightAt(0, 0), -1);
        Check.due("and can't be ended again", x.release(0), false);
        Check.due("the sheep are counted once", x.graze(3, 2, 0), 4);
        Check.due("none are left", x.sheep(3, 1), 0);
        x.pass(200);
        Check.due("none tread", x.square(0, 0) + x.square(5, 0), 100);
    }

    // Terms, promise 3: "it is taken as that into which it was merged, wherever it is told (chain() tells the number that it had then)"
    private static void mergedIsTakenAsTheOther() {
        Peatland x = new Peatland();
        x.grant(0, 0, 0, 1);
        x.grant(0, 1, 1, 1);
        x.grant(0, 2, 2, 1);
        x.merge(1, 2);
        Check.due("merge by its number", x.merge(1, 3), 3);
        Check.due("area", x.area(1), 3);
        Check.due("owner", x.owner(1), 1);
        Check.due("register", x.rightAt(x.register(Peatland.GRAZE, 1, 5, 6), 1), 3);
        Check.badState("register by the other number", () -> x.register(Peatland.GRAZE, 2, 5, 6));
        Check.due("graze", x.graze(5, 2, 6), 0);
        Check.due("sheep", x.sheep(5, 1), 6);
        Check.due("grant", x.grant(1, 2, 2, 4), 4);
        Check.badState("both are the same", () -> x.merge(1, 2));
        Check.due("merge into it", x.merge(x.grant(0, 9, 9, 1), 1), 3);
        Check.due("chain now", x.chain(0, 0), 3);
        Check.due("chain by the number of then", x.chain(0, 1), 2);
        Check.due("chain by the number of then", x.chain(0, 2), 1);
    }

    // Terms, promise 4: "A map, of which there can be 12, tells that a field is a person's."
    private static void twelveMaps() {
        Peatland x = new Peatland();
        for (int i = 1; i < 12; i++) {
            x.survey(i % 2, 0, 11);
        }
        Check.due("the last map", x.survey(5, 0, 11), 12);
        Check.badState("no map 13", () -> x.survey(6, 0, 11));
        Check.due("of three persons", x.disputed(11), 3);
        x.die(5);
        Check.due("one that ended makes room", x.survey(6, 12, 12), 12);
    }

    // Terms, promise 5: "A square is used by one person at most, since a day"
    private static void oneUserAtMost() {
        Peatland x = new Peatland();
        x.use(3, 0, 1);
        x.use(4, 1, 2);
        Check.due("the first one", x.square(0, 3), 3);
        Check.due("the second one alone", x.square(1, 3), 4);
        Check.due("the first one has one less", x.use(3, 0, 0), 1);
        Scene.passDays(x, 720);
        Check.due("a case for what is left", x.caseAt(x.file(3, true, 0, 99), 2), 1);
        Check.due("a case for the others", x.caseAt(x.file(4, true, 0, 99), 2), 2);
    }

    // Terms, promise 5: "who begins to use a field uses all of its squares from today on, but those that the person used already since that day"
    private static void useBeginsOnce() {
        Peatland x = new Peatland();
        x.use(3, 0, 1);
        x.pass(100);
        x.use(3, 0, 2);
        x.use(4, 1, 1);
        x.use(3, 1, 1);
        Scene.passDays(x, 620);
        Check.due("since the day 0 alone", x.caseAt(x.file(3, true, 0, 99), 2), 1);
        Scene.passDays(x, 99);
        Check.due("not yet", x.caseAt(x.file(3, true, 0, 99), 2), 1);
        x.pass(1);
        Check.due("and those since the day 100", x.caseAt(x.file(3, true, 0, 99), 2), 3);
    }

    // Terms, promise 6: "A case, of which there can be 16"
    private static void sixteenCases() {
        Peatland x = new Peatland();
        x.survey(3, 0, 99);
        for (int i = 0; i < 15; i++) {
            x.file(3, false, i, i);
        }
        x.decide(0);
        Check.due("the last case", x.file(3, false, 0, 99), 15);
        Check.badState("no case 16, decided ones count", () -> x.file(3, false, 0, 0));
        Check.outOfBounds("it is not there", () -> x.caseAt(16, 0));
    }

    // Terms, promise 6: "for the squares of a field that a map of the person tells"
    private static void caseByMaps() {
        Peatland x = new Peatland();
        x.survey(3, 0, 11);
        x.survey(3, 11, 22);
        x.survey(4, 33, 33);
        Check.due("of the field and of a map", x.caseAt(x.file(3, false, 1, 12), 2), 3);
        Check.due("of either map, once", x.caseAt(x.file(3, false, 0, 99), 2), 7);
        Check.badState("no map of the person", () -> x.file(3, false, 33, 99));
        x.survey(3, 98, 99);
        Check.due("as they were filed", x.caseAt(1, 2), 7);
    }

    // Terms, promise 6: "or that the person has used for 720 days or more"
    private static void caseByUseOf720Days() {
        Peatland x = new Peatland();
        x.use(3, 0, 11);
        Scene.passDays(x, 719);
        Check.badState("719 days", () -> x.file(3, true, 0, 99));
        x.pass(1);
        Check.due("720 days", x.caseAt(x.file(3, true, 0, 99), 2), 4);
        x.pass(1);
        Check.due("721 days", x.caseAt(x.file(3, true, 1, 99), 2), 2);
    }

    // Terms, promise 6: "It is OPEN, GRANTED or REFUSED; at first it is OPEN, at the stage 0, with evidence of 0 on both sides."
    private static void caseAtFirst() {
        Peatland x = new Peatland();
        Scene.mapped(x, 3, 0, 1);
        Check.due("OPEN", x.caseAt(0, 0), 0);
        Check.due("the stage 0", x.caseAt(0, 1), 0);
        Check.due("evidence for it", x.evidence(0, true, 1), 1);
        Check.due("evidence against it", x.evidence(0, false, 1), 1);
    }

    private static int decided(int isFor, int against) {
        Peatland x = new Peatland();
        Scene.mapped(x, 3, 0, 1);
        for (int i = 0; i < isFor; i++) {
            x.evidence(0, true, 1);
        }
        for (int i = 0; i < against; i++) {
            x.evidence(0, false, 1);
        }
        x.decide(0);
        return x.caseAt(0, 0);
    }

    // Terms, promise 8: "To decide one that is OPEN: it is GRANTED if the evidence for it is more than that against it, otherwise REFUSED."
    private static void decidedByMoreEvidence() {
        Check.due("none on both sides", decided(0, 0), Peatland.REFUSED);
        Check.due("1 for it", decided(1, 0), Peatland.GRANTED);
        Check.due("1 against it", decided(0, 1), Peatland.REFUSED);
        Check.due("as much on both sides", decided(7, 7), Peatland.REFUSED);
        Check.due("1 more for it", decided(8, 7), Peatland.GRANTED);
        Check.due("1 more against it", decided(7, 8), Peatland.REFUSED);
    }

    // Terms, promise 9: "An appeal makes one that was decided OPEN again, at the next stage, 1 or 2; its evidence stays, and what it gave stays given until it is decided."
    private static void appealKeepsAll() {
        Peatland x = new Peatland();
        Scene.mapped(x, 3, 0, 1);
        x.evidence(0, true, 5);
        x.evidence(0, false, 4);
        x.decide(0);
        Check.due("the next stage", x.appeal(0), 1);
        Check.due("OPEN again", x.caseAt(0, 0), Peatland.OPEN);
        Check.due("what it gave stays given", x.caseAt(0, 3), 2);
        Check.due("and in its parcel", x.parcelOf(0), 1);
        Check.due("evidence against it stays", x.evidence(0, false, 1), 5);
        Check.due("decided by all of it", x.decide(0), 2);
        Check.due("until then", x.caseAt(0, 3), 0);
        Check.due("the last stage", x.appeal(0), 2);
        Check.due("evidence for it stays", x.evidence(0, true, 1), 6);
        x.decide(0);
        Check.badState("no stage 3", () -> x.appeal(0));
    }

    // Terms, promise 8: "When it is GRANTED, those of its squares that are of parcels of others, or of the state, become a new parcel of the person, without rights, if there are some"
    private static void grantedTakesFromOthers() {
        Peatland x = new Peatland();
        x.grant(0, 0, 0, 3);
        x.grant(0, 1, 1, 4);
        x.register(Peatland.CUT, 0, 5, 0);
        x.register(Peatland.CUT, 2, 5, 0);
        Scene.mapped(x, 3, 0, 2);
        Check.due("one of another person, one of the state", Scene.win(x, 0), 2);
        Check.due("its own", x.parcelOf(0), 1);
        Check.due("another person's", x.parcelOf(1), 3);
        Check.due("the state's", x.parcelOf(2), 3);
        Check.due("not of the case", x.parcelOf(3), 0);
        Check.due("of the person", x.owner(3), 3);
        Check.outOfBounds("without rights", () -> x.rightAt(2, 0));
    }

    // Terms, promise 8: "When it is GRANTED, those of its squares that are of parcels of others, or of the state, become a new parcel of the person, without rights, if there are some"
    private static void grantedTakesNone() {
        Peatland x = new Peatland();
        x.grant(0, 0, 1, 3);
        Scene.mapped(x, 3, 0, 1);
        Check.due("none to take", Scene.win(x, 0), 0);
        Check.due("GRANTED", x.caseAt(0, 0), Peatland.GRANTED);
        Check.due("no new parcel", x.parcels(), 2);
        Check.due("gives none", x.caseAt(0, 3), 0);
    }

    // Terms, promise 8: "but not those that another case gave, if that was GRANTED last at a greater stage"
    private static void greaterStageAlone() {
        Peatland x = new Peatland();
        Scene.mapped(x, 1, 0, 0);
        Scene.mapped(x, 2, 0, 1);
        Scene.lose(x, 0);
        x.appeal(0);
        Scene.win(x, 0);
        Check.due("stage 0 against 1", Scene.win(x, 1), 1);
        Check.due("it stays", x.owner(x.parcelOf(0)), 1);
        x.appeal(1);
        Check.due("stage 1 against 1", Scene.win(x, 1), 1);
        Check.due("it is taken", x.owner(x.parcelOf(0)), 2);
        x.appeal(0);
        Check.due("stage 2 against 1", Scene.win(x, 0), 1);
        x.appeal(1);
        Check.due("stage 2 against 2", Scene.win(x, 1), 1);
        Check.due("it is taken again", x.owner(x.parcelOf(0)), 2);
    }

    // Terms, promise 8: "but not those that another case gave, if that was GRANTED last at a greater stage"
    private static void stageWhenGrantedLast() {
        Peatland x = new Peatland();
        Scene.mapped(x, 1, 0, 0);
        Scene.mapped(x, 2, 0, 0);
        Scene.mapped(x, 3, 0, 0);
        Scene.win(x, 0);
        x.appeal(0);
        Check.due("GRANTED at 0, OPEN at 1", Scene.win(x, 1), 1);
        Scene.win(x, 0);
        Check.due("GRANTED last at 1, against 0", Scene.win(x, 2), 0);
        x.appeal(0);
        Scene.mapped(x, 4, 0, 0);
        Check.due("GRANTED last at 1, OPEN at 2, against 0", Scene.win(x, 3), 0);
        x.appeal(1);
        Check.due("GRANTED last at 1, OPEN at 2, against 1", Scene.win(x, 1), 1);
    }

    // Terms, promise 8: "They are given by this case then, and each one remembers the parcel from which it was taken."
    private static void takenIsRemembered() {
        Peatland x = new Peatland();
        x.grant(0, 1, 1, 4);
        Scene.mapped(x, 3, 0, 1);
        Scene.mapped(x, 5, 1, 1);
        Scene.win(x, 0);
        Check.due("given", x.caseAt(0, 3), 2);
        Scene.win(x, 1);
        Check.due("given by the other case then", x.caseAt(1, 3), 1);
        Check.due("and no more by the first", x.caseAt(0, 3), 1);
        x.appeal(1);
        Scene.lose(x, 1);
        Check.due("back to the parcel from which that took it", x.parcelOf(1), 2);
        x.appeal(0);
        Check.due("only what is given by it", Scene.lose(x, 0), 1);
        Check.due("back to the state's", x.parcelOf(0), 0);
        Check.due("it stays", x.parcelOf(1), 2);
    }

    // Terms, promise 8: "When it is REFUSED, all squares that are given by it, in whatever parcels they are by then, come back to the parcels from which they were taken"
    private static void refusedGivesBackWhereverTheyAre() {
        Peatland x = new Peatland();
        x.grant(0, 0, 1, 4);
        x.grant(0, 2, 2, 4);
        Scene.mapped(x, 3, 0, 3);
        Scene.win(x, 0);
        x.grant(3, 0, 0, 9);
        x.grant(3, 2, 3, 3);
        x.merge(5, 3);
        x.merge(1, 2);
        x.appeal(0);
        Check.due("all come back", Scene.lose(x, 0), 4);
        Check.due("from another person's", x.chain(0, 1), 4);
        Check.due("to that into which it was merged", x.chain(0, 0), 2);
        Check.due("to the one from which it was taken", x.chain(2, 0), 2);
        Check.due("from a merged one", x.chain(2, 2), 5);
        Check.due("to the state's", x.parcelOf(3), 0);
        Check.due("none is left there", x.area(3) + x.area(4), 0);
    }

    // Terms, promise 8: "and are given by none"
    private static void refusedAreGivenByNone() {
        Peatland x = new Peatland();
        Scene.mapped(x, 3, 0, 1);
        Scene.mapped(x, 4, 0, 1);
        Scene.lose(x, 0);
        x.appeal(0);
        Scene.win(x, 0);
        Check.due("the stage 1 holds against 0", Scene.win(x, 1), 0);
        x.appeal(0);
        Check.due("they come back", Scene.lose(x, 0), 2);
        Check.due("given by none", x.caseAt(0, 3), 0);
        Scene.mapped(x, 5, 0, 1);
        Check.due("they can be taken at the stage 0", Scene.win(x, 2), 2);
    }
}
