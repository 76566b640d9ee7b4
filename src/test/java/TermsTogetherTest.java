/** Sentences of Terms where they meet: one thing twice on a day, or one after the other. */
final class TermsTogetherTest {
    private TermsTogetherTest() {
    }

    public static void main(String[] args) {
        grantedRightsKeepTheirShares();
        mergeBringsSheepWithoutRights();
        mergeLeavesRightsOfEachKind();
        useSinceALaterDay();
        useTakenAfterYears();
        fileForOwnSquares();
        takenWhoeverUsesThem();
        evidenceOfBothSidesStays();
        evidenceWithoutBound();
        grantedAtAGreaterStageWithoutSquares();
        refusedDecisionRaisesNothing();
        mergedParcelsLeaveNoRoomForCases();
        backThroughTwoMerges();
        backAfterTwoCases();
        twoCrowdsOnADay();
        crowdOnAWideParcel();
        crowdThatDies();
        sheepOfTheDeadEverywhere();
        openCaseAtTheLastStage();
        grazeAndBurnAreNotCut();
        cutDoesNotHideTheFire();
        fireOfEachSquare();
        paidForWetSquaresWithoutBirds();
        growsWhoeverUsesIt();
        heirsOfHeirs();
        Check.end("TermsTogetherTest");
    }

    // Terms, promise 2: "It has the rights of the old one, in their order, each coming from that."
    // Terms, promise 30: "What a right of GRAZE is worth is its shares"
    private static void grantedRightsKeepTheirShares() {
        Peatland x = new Peatland();
        x.grant(0, 0, 9, 4);
        x.register(Peatland.GRAZE, 1, 1, 15);
        x.register(Peatland.GRAZE, 1, 2, 30);
        Check.due("less than its shares", x.rightAt(1, 3), 5);
        x.grant(1, 0, 1, 4);
        Check.due("the first, of room for 4", x.rightAt(2, 3), 4);
        Check.due("the second", x.rightAt(3, 3), 0);
        x.grant(0, 10, 99, 4);
        x.register(Peatland.GRAZE, 3, 3, 1);
        x.merge(3, 2);
        Check.due("its shares came with it", x.rightAt(2, 3), 15);
        Check.due("those of the second too", x.rightAt(3, 3), 30);
    }

    // Terms, promise 3: "is to bring all its squares, its sheep and its rights there"
    private static void mergeBringsSheepWithoutRights() {
        Peatland x = new Peatland();
        x.grant(0, 0, 1, 4);
        x.grant(0, 5, 6, 4);
        x.register(Peatland.GRAZE, 1, 7, 4);
        x.register(Peatland.GRAZE, 2, 7, 4);
        x.graze(7, 1, 3);
        x.graze(7, 2, 4);
        x.release(0);
        x.release(1);
        Check.due("squares", x.merge(1, 2), 4);
        Check.due("sheep of one who has no right any more", x.sheep(7, 2), 7);
        Check.outOfBounds("no right came", () -> x.rightAt(2, 0));
        x.pass(1);
        Check.due("7 have room on 4 squares", x.square(0, 0), 50);
        x.grant(2, 0, 0, 4);
        x.pass(1);
        Check.due("but not on 3", x.square(1, 0), 49);
    }

    // Terms, promise 3: "those rights that the other one does not have, by kinds and persons"
    private static void mergeLeavesRightsOfEachKind() {
        for (int kind = 0; kind < 3; kind++) {
            Peatland x = new Peatland();
            x.grant(0, 0, 1, 4);
            x.grant(0, 5, 6, 4);
            x.register(kind, 1, 7, 4);
            x.register(kind, 1, 8, 4);
            x.register(kind, 2, 7, 4);
            x.register((kind + 1) % 3, 2, 8, 4);
            x.merge(1, 2);
            Check.due("one that is missing, kind " + kind, x.rightAt(4, 4), 1);
            Check.due("its kind", x.rightAt(4, 0), kind);
            Check.outOfBounds("one that is there", () -> x.rightAt(5, 0));
        }
    }

    // Terms, promise 5: "who begins to use a field uses all of its squares from today on, but those that the person used already since that day"
    private static void useSinceALaterDay() {
        Peatland x = new Peatland();
        x.pass(10);
        x.use(3, 0, 0);
        x.pass(90);
        x.use(4, 0, 0);
        Scene.passDays(x, 719);
        Check.badState("719 days since the other one used it", () -> x.file(4, true, 0, 0));
        x.pass(1);
        Check.due("720 days", x.file(4, true, 0, 0), 0);
        x.use(3, 0, 0);
        Check.badState("the first one begins again", () -> x.file(3, true, 0, 0));
        Scene.passDays(x, 720);
        Check.due("720 days since", x.file(3, true, 0, 0), 1);
    }

    // Terms, promise 5: "A square is used by one person at most, since a day"
    private static void useTakenAfterYears() {
        Peatland x = new Peatland();
        x.use(3, 0, 1);
        Scene.passDays(x, 2000);
        Check.due("one that was used for years", x.use(4, 1, 2), 2);
        Check.due("by the other one then", x.square(1, 3), 4);
        Check.badState("who just began", () -> x.file(4, true, 0, 99));
        Check.due("what is left", x.caseAt(x.file(3, true, 0, 99), 2), 1);
    }

    // Terms, promise 6: "for the squares of a field that a map of the person tells, or that the person has used for 720 days or more"
    private static void fileForOwnSquares() {
        Peatland x = new Peatland();
        x.grant(0, 0, 1, 3);
        x.survey(3, 0, 2);
        x.use(3, 1, 3);
        Scene.passDays(x, 720);
        Check.due("by maps, its own too", x.caseAt(x.file(3, false, 0, 99), 2), 3);
        Check.due("by use, its own too", x.caseAt(x.file(3, true, 0, 99), 2), 3);
        Check.due("only those of others are given", Scene.win(x, 1), 2);
    }

    // Terms, promise 8: "When it is GRANTED, those of its squares that are of parcels of others, or of the state, become a new parcel of the person"
    private static void takenWhoeverUsesThem() {
        Peatland x = new Peatland();
        x.use(3, 0, 1);
        Scene.passDays(x, 720);
        x.file(3, true, 0, 1);
        x.use(4, 0, 0);
        x.die(4);
        x.use(5, 1, 1);
        Check.due("all that it was filed for", Scene.win(x, 0), 2);
        Check.due("used by another one still", x.square(1, 3), 5);
        Check.due("used by nobody still", x.square(0, 3), Peatland.NONE);
    }

    // Terms, promise 9: "its evidence stays"
    private static void evidenceOfBothSidesStays() {
        Peatland x = new Peatland();
        Scene.mapped(x, 3, 0, 1);
        for (int stage = 0; stage < 3; stage++) {
            Check.due("for it, at the stage " + stage, x.evidence(0, true, 2), 2 * stage + 2);
            Check.due("against it, at the stage " + stage, x.evidence(0, false, 3), 3 * stage + 3);
            x.decide(0);
            if (stage < 2) {
                x.appeal(0);
            }
        }
        Check.due("REFUSED at last", x.caseAt(0, 0), Peatland.REFUSED);
    }

    // Terms, promise 7: "with evidence of 0 on both sides"
    private static void evidenceWithoutBound() {
        Peatland x = new Peatland();
        Scene.mapped(x, 3, 0, 1);
        for (int i = 1; i <= 250; i++) {
            Check.due("for it", x.evidence(0, true, 9), 9 * i);
            Check.due("against it", x.evidence(0, false, 9), 9 * i);
        }
        Check.due("as much on both sides", x.decide(0), 0);
    }

    // Terms, promise 8: "but not those that another case gave, if that was GRANTED last at a greater stage"
    private static void grantedAtAGreaterStageWithoutSquares() {
        Peatland x = new Peatland();
        Scene.mapped(x, 3, 0, 1);
        Scene.mapped(x, 4, 0, 1);
        Scene.win(x, 0);
        x.appeal(0);
        Check.due("GRANTED at the stage 1, all its own", Scene.win(x, 0), 0);
        Check.due("they stay given", x.caseAt(0, 3), 2);
        x.grant(x.parcelOf(1), 1, 1, 5);
        Check.due("none at the stage 0, nor in another's parcel", Scene.win(x, 1), 0);
        Check.due("GRANTED all the same", x.caseAt(1, 0), Peatland.GRANTED);
        x.appeal(1);
        Check.due("both at the stage 1", Scene.win(x, 1), 2);
    }

    // Terms, promise 8: "A call that throws an exception changes nothing."
    private static void refusedDecisionRaisesNothing() {
        Peatland x = new Peatland();
        Scene.mapped(x, 3, 90, 91);
        Scene.mapped(x, 4, 90, 90);
        Scene.win(x, 0);
        x.appeal(0);
        x.grant(1, 91, 91, 5);
        for (int i = 1; x.parcels() < 40; i++) {
            x.grant(0, i, i, 0);
        }
        Check.badState("a new parcel is needed at the stage 1", () -> x.decide(0));
        x.evidence(1, true, 9);
        Check.badState("GRANTED last at the stage 0: that needs one too", () -> x.decide(1));
        Check.due("OPEN", x.caseAt(1, 0), Peatland.OPEN);
    }

    // Promise 8: "or a new parcel would be needed, and there are 40"
    // Terms, promise 8: "Parcels are numbered from 0, at most 40"
    private static void mergedParcelsLeaveNoRoomForCases() {
        Peatland x = Scene.fortyParcels();
        Scene.mapped(x, 3, 90, 99);
        x.merge(1, 13);
        x.merge(13, 25);
        x.evidence(0, true, 1);
        Check.badState("with 40 that were numbered", () -> x.decide(0));
        Check.due("OPEN still", x.caseAt(0, 0), Peatland.OPEN);
        Check.due("as told", x.parcels(), 40);
    }

    // Terms, promise 8: "come back to the parcels from which they were taken"
    // Terms, promise 3: "it is taken as that into which it was merged, wherever it is told"
    private static void backThroughTwoMerges() {
        Peatland x = new Peatland();
        for (int i = 0; i < 5; i++) {
            x.grant(0, 2 * i, 2 * i + 1, 7);
        }
        Scene.mapped(x, 3, 0, 3);
        Check.due("of two parcels", Scene.win(x, 0), 4);
        x.merge(1, 3);
        x.merge(3, 4);
        x.merge(4, 5);
        Check.due("without those that were taken", x.area(1), 6);
        x.appeal(0);
        Check.due("all come back", Scene.lose(x, 0), 4);
        Check.due("through three merges", x.parcelOf(0), 5);
        Check.due("by the number of now", x.chain(1, 0), 5);
        Check.due("it never was of those between", x.chain(1, 2), 1);
        Check.due("the others as ever", x.parcelOf(2), 2);
        Check.due("area", x.area(3), 8);
    }

    // Terms, promise 8: "They are given by this case then, and each one remembers the parcel from which it was taken."
    // Terms, promise 8: "When it is REFUSED, all squares that are given by it"
    private static void backAfterTwoCases() {
        Peatland x = new Peatland();
        Scene.mapped(x, 3, 0, 0);
        Scene.mapped(x, 4, 0, 0);
        Scene.win(x, 0);
        Scene.win(x, 1);
        x.appeal(0);
        Check.due("the first gives none any more", Scene.lose(x, 0), 0);
        Check.due("it stays", x.owner(x.parcelOf(0)), 4);
        x.appeal(1);
        Check.due("back to the first one's parcel", Scene.lose(x, 1), 1);
        Check.due("its owner", x.owner(x.parcelOf(0)), 3);
        x.appeal(0);
        Check.due("and given by none", Scene.lose(x, 0), 0);
        Check.due("its chain", x.chain(0, 0) * 100 + x.chain(0, 1) * 10 + x.chain(0, 2), 121);
        Check.due("its end", x.chain(0, 3), 0);
    }

    // Terms, promise 19: "3. Of each parcel with more sheep than it has room for, the lowest square that has peat loses 1 of it."
    private static void twoCrowdsOnADay() {
        Peatland x = new Peatland();
        for (int row = 0; row < 4; row++) {
            x.grant(0, 10 * row, 10 * row + 2, row);
            x.register(Peatland.GRAZE, row + 1, 9, 6);
            x.graze(9, row + 1, 6);
        }
        x.grant(1, 0, 0, 8);
        x.grant(3, 22, 22, 8);
        x.grant(4, 30, 31, 8);
        x.pass(3);
        Check.due("the first crowd", x.square(1, 0), 47);
        Check.due("no crowd", x.square(10, 0), 50);
        Check.due("the next crowd", x.square(20, 0), 47);
        Check.due("the last crowd", x.square(32, 0), 47);
        int others = x.square(0, 0) + x.square(2, 0) + x.square(21, 0) + x.square(22, 0) + x.square(30, 0);
        Check.due("no other square", others, 250);
    }

    // Terms, promise 19: "3. Of each parcel with more sheep than it has room for, the lowest square that has peat loses 1 of it."
    private static void crowdOnAWideParcel() {
        Peatland x = new Peatland();
        x.register(Peatland.GRAZE, 0, 1, 99);
        x.register(Peatland.GRAZE, 0, 2, 99);
        x.graze(1, 0, 99);
        x.graze(2, 0, 97);
        x.grant(0, 50, 51, 4);
        x.pass(1);
        Check.due("196 on 98 squares", x.square(0, 0), 50);
        x.grant(0, 52, 52, 4);
        x.pass(1);
        Check.due("196 on 97 squares", x.square(0, 0), 49);
    }

    // Terms, promise 21: "Then the person's rights, sheep, maps and uses end"
    // Terms, promise 19: "3. Of each parcel with more sheep than it has room for"
    private static void crowdThatDies() {
        Peatland x = new Peatland();
        x.grant(0, 0, 2, 4);
        x.register(Peatland.GRAZE, 1, 5, 3);
        x.register(Peatland.GRAZE, 1, 6, 3);
        x.graze(5, 1, 3);
        x.graze(6, 1, 3);
        x.grant(1, 2, 2, 4);
        x.pass(1);
        Check.due("6 on 2 squares", x.square(0, 0), 49);
        x.die(5);
        x.pass(1);
        Check.due("3 on 2 squares", x.square(0, 0), 49);
        x.grant(1, 1, 1, 4);
        x.pass(1);
        Check.due("3 on 1 square", x.square(0, 0), 48);
        x.die(6);
        x.pass(5);
        Check.due("none", x.square(0, 0), 48);
    }

    // Terms, promise 21: "Then the person's rights, sheep, maps and uses end"
    private static void sheepOfTheDeadEverywhere() {
        Peatland x = new Peatland();
        for (int i = 0; i < 4; i++) {
            x.grant(0, i, i, 4);
            x.register(Peatland.GRAZE, i + 1, 5, 1);
            x.register(Peatland.GRAZE, i + 1, 6, 1);
            x.graze(5, i + 1, 1);
            x.graze(6, i + 1, 1);
        }
        x.grant(2, 1, 1, 8);
        x.die(5);
        for (int i = 1; i <= 4; i++) {
            Check.due("the dead one's on " + i, x.sheep(5, i), 0);
            Check.due("the other one's on " + i, x.sheep(6, i), 1);
        }
    }

    // Terms, promise 21: "and then the person's cases that are OPEN are REFUSED, by rising numbers"
    private static void openCaseAtTheLastStage() {
        Peatland x = new Peatland();
        Scene.mapped(x, 3, 0, 1);
        Scene.lose(x, 0);
        x.appeal(0);
        Scene.win(x, 0);
        x.appeal(0);
        Check.due("given while it is OPEN at the stage 2", x.caseAt(0, 3), 2);
        x.die(3);
        Check.due("REFUSED", x.caseAt(0, 0), Peatland.REFUSED);
        Check.due("at the stage 2", x.caseAt(0, 1), 2);
        Check.due("gives none", x.caseAt(0, 3), 0);
        Check.due("all are back", x.area(0), 100);
    }

    // Terms, promises 16 and 18: "who has a right of CUT on the parcel can cut, who has one of BURN can burn"
    private static void grazeAndBurnAreNotCut() {
        Peatland x = new Peatland();
        x.register(Peatland.GRAZE, 0, 4, 9);
        x.register(Peatland.BURN, 0, 4, 9);
        x.register(Peatland.GRAZE, 0, 5, 9);
        x.register(Peatland.CUT, 0, 5, 9);
        Scene.passDays(x, 140);
        Check.badState("GRAZE and BURN", () -> x.cut(4, 0, 1));
        Check.badState("GRAZE and CUT", () -> x.burn(5, 0));
        Check.due("BURN", x.burn(4, 0), 45);
        Check.due("CUT", x.cut(5, 0, 1), 44);
    }

    // Terms, promise 18: "and it was not burnt in the last 1080 days"
    private static void cutDoesNotHideTheFire() {
        Peatland x = new Peatland();
        x.grant(0, 0, 99, 0);
        Scene.passDays(x, 140);
        x.burn(0, 0);
        x.cut(0, 0, 1);
        x.grant(1, 0, 9, 1);
        x.merge(x.grant(1, 10, 10, 0), 1);
        Check.badState("it was cut and granted since", () -> x.burn(1, 0));
        Scene.passDays(x, 1079);
        Check.badState("1079 days ago", () -> x.burn(1, 0));
        x.pass(1);
        Check.due("1080 days ago", x.burn(1, 0), 39);
    }

    // Terms, promise 18: "it loses 5 of its peat, or what it has"
    private static void fireOfEachSquare() {
        Peatland x = new Peatland();
        x.grant(0, 0, 99, 0);
        Scene.passDays(x, 140);
        int water = x.water(0);
        for (int s = 0; s < 100; s++) {
            Check.due("burnt " + s, x.burn(0, s), 45);
        }
        Check.due("no water is lost", x.water(0), water);
        Check.due("nor dried", x.water(3), 100 * 21);
    }

    // Terms, promise 33: "then each person who is alive is paid 2 for each wet square of the person's parcels, and 1 for each bird on all of their squares, wet or not"
    private static void paidForWetSquaresWithoutBirds() {
        Peatland x = new Peatland();
        x.grant(0, 0, 0, 3);
        x.grant(0, 50, 50, 4);
        x.grant(0, 99, 99, 5);
        x.cut(3, 0, 20);
        x.cut(3, 0, 20);
        x.cut(3, 0, 2);
        Scene.passDays(x, 150);
        x.burn(4, 50);
        Scene.passDays(x, 209);
        x.rain(60);
        x.pass(1);
        Check.due("wet, with 9 of peat", x.paid(3), 2);
        Check.due("wet, burnt 210 days ago", x.paid(4), 2);
        Check.due("wet, with birds", x.paid(5), 2 + 4);
    }

    // Terms, promise 19: "4. If a year begins, each wet square that was not burnt in the last 360 days gets 1 of peat"
    private static void growsWhoeverUsesIt() {
        Peatland x = new Peatland();
        x.grant(0, 0, 0, 3);
        x.cut(3, 0, 20);
        x.cut(3, 0, 20);
        x.cut(3, 0, 10);
        x.use(4, 0, 1);
        x.survey(5, 1, 2);
        Scene.passDays(x, 359);
        x.rain(60);
        x.pass(1);
        Check.due("one without peat", x.square(0, 0), 1);
        Check.due("one that is used and mapped", x.square(1, 0), 51);
        Check.due("one that is mapped", x.square(2, 0), 51);
    }

    // Terms, promise 21: "When a person dies, the parcels go, by rising numbers, to the heirs who are alive, in turns, in the order in which they were named; without one to the state."
    private static void heirsOfHeirs() {
        Peatland x = new Peatland();
        x.grant(0, 0, 0, 1);
        x.grant(0, 1, 1, 2);
        x.grant(0, 2, 2, 1);
        x.name(1, 2);
        x.name(2, 3);
        x.name(2, 1);
        x.name(3, 1);
        Check.due("both to the one", x.die(1), 2);
        Check.due("with what it had, to the one that is alive", x.die(2), 3);
        for (int p = 1; p <= 3; p++) {
            Check.due("owner of " + p, x.owner(p), 3);
        }
        Check.due("the dead do not come back", x.die(3), 0);
        Check.due("to the state", x.merge(3, x.merge(1, 0) == 98 ? 0 : 1), 99);
    }
}
