/** Promises 4 to 9, 28 and 29: maps, use, and cases with what they give. */
final class CaseTest {
    private CaseTest() {
    }

    public static void main(String[] args) {
        surveys();
        surveyRefused();
        uses();
        useRefused();
        fileByMaps();
        fileByUse();
        fileRefused();
        fileLimit();
        evidence();
        decideGrants();
        decideTakesFromOthersAlone();
        decideRefuses();
        decideNeedsAParcel();
        greaterStageHolds();
        lastGrantedStageHolds();
        givenInOtherParcels();
        takenAgainFromOthers();
        comesBackToMerged();
        comesBackToWhereItIs();
        givenByOneAlone();
        decideRefused();
        appeals();
        askedRefused();
        Check.end("CaseTest");
    }

    /** A case of the person for the field, by a map that tells it. */
    private static int mapped(Peatland x, int person, int from, int to) {
        x.survey(person, from, to);
        return x.file(person, false, from, to);
    }

    private static int granted(Peatland x, int number) {
        x.evidence(number, true, 9);
        return x.decide(number);
    }

    private static int refused(Peatland x, int number) {
        for (int i = 0; i < 6; i++) {
            x.evidence(number, false, 9);
        }
        return x.decide(number);
    }

    private static void surveys() {
        Peatland x = new Peatland();
        Check.due("4 first", x.survey(3, 11, 33), 1);
        Check.due("4 second", x.survey(3, 33, 44), 2);
        Check.due("4 third", x.survey(4, 33, 33), 3);
        Check.due("28 one person with two maps, and another", x.disputed(33), 2);
        Check.due("28 one person", x.disputed(22), 1);
        Check.due("28 corner", x.disputed(11), 1);
        Check.due("28 corner", x.disputed(13), 1);
        Check.due("28 left of it", x.disputed(10), 0);
        Check.due("28 right of it", x.disputed(14), 0);
        Check.due("28 below it", x.disputed(41), 0);
        Check.due("4 gives nothing", x.parcelOf(33), 0);
        x.die(3);
        Check.due("28 maps of the dead end", x.disputed(33), 1);
        Check.due("4 those that ended don't count", x.survey(4, 0, 0), 2);
    }

    private static void surveyRefused() {
        Peatland x = new Peatland();
        x.die(5);
        Check.outOfBounds("4 person below", () -> x.survey(-1, 0, 0));
        Check.outOfBounds("4 person above", () -> x.survey(12, 0, 0));
        Check.outOfBounds("4 from below", () -> x.survey(0, -1, 0));
        Check.outOfBounds("4 from above", () -> x.survey(0, 100, 0));
        Check.outOfBounds("4 to below", () -> x.survey(0, 0, -1));
        Check.outOfBounds("4 to above", () -> x.survey(0, 0, 100));
        Check.outOfBounds("4 person ahead of field", () -> x.survey(12, 5, 4));
        Check.badArgument("4 column goes down", () -> x.survey(0, 5, 14));
        Check.badArgument("4 row goes down", () -> x.survey(0, 14, 5));
        Check.badArgument("4 field ahead of the dead", () -> x.survey(5, 5, 4));
        Check.badState("4 the dead", () -> x.survey(5, 4, 5));
        for (int i = 1; i <= 12; i++) {
            Check.due("4 map " + i, x.survey(i % 3, 0, 99), i);
        }
        Check.badState("4 there are 12", () -> x.survey(0, 0, 0));
        Check.badArgument("4 field ahead of 12", () -> x.survey(0, 1, 0));
        x.die(0);
        Check.due("4 there is room again", x.survey(1, 0, 0), 9);
    }

    private static void uses() {
        Peatland x = new Peatland();
        Check.due("5 first", x.use(3, 0, 22), 9);
        Check.due("5 in all", x.use(3, 50, 50), 10);
        Check.due("5 those used already", x.use(3, 22, 33), 13);
        Check.due("31 who uses it", x.square(22, 3), 3);
        Check.due("5 another person", x.use(4, 0, 1), 2);
        Check.due("31 the other one", x.square(1, 3), 4);
        Check.due("31 the first one still", x.square(2, 3), 3);
        Check.due("31 nobody", x.square(99, 3), -1);
        Check.due("5 what is left", x.use(3, 99, 99), 12);
        Check.due("5 gives nothing", x.parcelOf(0), 0);
    }

    private static void useRefused() {
        Peatland x = new Peatland();
        x.use(5, 0, 0);
        x.die(5);
        Check.outOfBounds("5 person below", () -> x.use(-1, 0, 0));
        Check.outOfBounds("5 person above", () -> x.use(12, 0, 0));
        Check.outOfBounds("5 from below", () -> x.use(0, -1, 0));
        Check.outOfBounds("5 from above", () -> x.use(0, 100, 0));
        Check.outOfBounds("5 to below", () -> x.use(0, 0, -1));
        Check.outOfBounds("5 to above", () -> x.use(0, 0, 100));
        Check.outOfBounds("5 person ahead of field", () -> x.use(12, 5, 4));
        Check.badArgument("5 column goes down", () -> x.use(0, 5, 14));
        Check.badArgument("5 row goes down", () -> x.use(0, 14, 5));
        Check.badArgument("5 field ahead of the dead", () -> x.use(5, 5, 4));
        Check.badState("5 the dead", () -> x.use(5, 0, 0));
        Check.due("5 nobody uses it", x.square(0, 3), -1);
    }

    private static void fileByMaps() {
        Peatland x = new Peatland();
        x.survey(3, 0, 11);
        x.survey(3, 11, 12);
        x.survey(4, 20, 29);
        Check.due("6 first", x.file(3, false, 0, 99), 0);
        Check.due("29 squares of both maps", x.caseAt(0, 2), 5);
        Check.due("29 open", x.caseAt(0, 0), Peatland.OPEN);
        Check.due("29 stage", x.caseAt(0, 1), 0);
        Check.due("29 given", x.caseAt(0, 3), 0);
        Check.due("6 part of a map", x.file(3, false, 11, 11), 1);
        Check.due("29 that part", x.caseAt(1, 2), 1);
        Check.badState("6 maps of others", () -> x.file(3, false, 20, 29));
        Check.due("6 by the other one", x.file(4, false, 22, 99), 2);
        Check.due("29 its squares", x.caseAt(2, 2), 8);
        x.survey(3, 50, 50);
        Check.due("29 stay as they were filed", x.caseAt(0, 2), 5);
        x.survey(5, 0, 99);
        Check.due("6 all squares", x.file(5, false, 0, 99), 3);
        Check.due("29 all squares", x.caseAt(3, 2), 100);
        Check.badState("6 use is no map", () -> x.file(3, true, 0, 99));
        Check.due("29 evidence for", x.evidence(0, true, 1), 1);
        Check.due("29 evidence against", x.evidence(0, false, 1), 1);
    }

    private static void fileByUse() {
        Peatland x = new Peatland();
        x.use(3, 0, 1);
        x.pass(1);
        x.use(3, 0, 2);
        x.use(4, 1, 1);
        x.use(3, 1, 1);
        x.pass(200);
        x.pass(200);
        x.pass(200);
        x.pass(118);
        Check.badState("6 used for 719 days", () -> x.file(3, true, 0, 99));
        x.pass(1);
        Check.due("6 used for 720 days", x.file(3, true, 0, 99), 0);
        Check.due("29 the one that was used all the time", x.caseAt(0, 2), 1);
        x.pass(1);
        Check.due("6 a day later", x.file(3, true, 0, 99), 1);
        Check.due("29 the others too", x.caseAt(1, 2), 3);
        Check.badState("6 one that uses no more", () -> x.file(4, true, 0, 99));
        Check.badState("6 map is no use", () -> x.file(3, false, 0, 99));
        Check.badState("6 outside the field", () -> x.file(3, true, 3, 99));
        x.use(4, 0, 0);
        Check.due("29 stay as they were filed", x.caseAt(0, 2), 1);
    }

    private static void fileRefused() {
        Peatland x = new Peatland();
        x.survey(0, 0, 99);
        x.survey(5, 0, 99);
        x.die(5);
        Check.outOfBounds("6 person below", () -> x.file(-1, false, 0, 0));
        Check.outOfBounds("6 person above", () -> x.file(12, false, 0, 0));
        Check.outOfBounds("6 from below", () -> x.file(0, false, -1, 0));
        Check.outOfBounds("6 from above", () -> x.file(0, false, 100, 0));
        Check.outOfBounds("6 to below", () -> x.file(0, false, 0, -1));
        Check.outOfBounds("6 to above", () -> x.file(0, false, 0, 100));
        Check.outOfBounds("6 person ahead of field", () -> x.file(12, false, 5, 4));
        Check.badArgument("6 column goes down", () -> x.file(0, false, 5, 14));
        Check.badArgument("6 row goes down", () -> x.file(0, true, 14, 5));
        Check.badArgument("6 field ahead of the dead", () -> x.file(5, false, 5, 4));
        Check.badState("6 the dead", () -> x.file(5, false, 4, 5));
        Check.badState("6 no square", () -> x.file(1, false, 4, 5));
        Check.due("6 the refused have no number", x.file(0, false, 4, 5), 0);
    }

    private static void fileLimit() {
        Peatland x = new Peatland();
        x.survey(0, 0, 99);
        for (int i = 0; i < 16; i++) {
            Check.due("6 case " + i, x.file(0, false, i, i), i);
        }
        Check.badState("6 there are 16", () -> x.file(0, false, 0, 0));
        Check.badArgument("6 field ahead of 16", () -> x.file(0, false, 1, 0));
        Check.outOfBounds("29 no more", () -> x.caseAt(16, 0));
    }

    private static void evidence() {
        Peatland x = new Peatland();
        Check.outOfBounds("7 no case yet", () -> x.evidence(0, true, 1));
        mapped(x, 0, 0, 0);
        Check.due("7 for", x.evidence(0, true, 9), 9);
        Check.due("7 against", x.evidence(0, false, 1), 1);
        Check.due("7 for, in all", x.evidence(0, true, 4), 13);
        Check.due("7 against, in all", x.evidence(0, false, 2), 3);
        Check.outOfBounds("7 below", () -> x.evidence(-1, true, 1));
        Check.outOfBounds("7 above", () -> x.evidence(1, true, 1));
        Check.outOfBounds("7 case ahead of weight", () -> x.evidence(1, true, 0));
        Check.badArgument("7 weight 0", () -> x.evidence(0, true, 0));
        Check.badArgument("7 weight 10", () -> x.evidence(0, false, 10));
        Check.badArgument("7 weight below", () -> x.evidence(0, false, -1));
        x.decide(0);
        Check.badState("7 decided", () -> x.evidence(0, true, 1));
        Check.badArgument("7 weight ahead of decided", () -> x.evidence(0, true, 10));
        x.appeal(0);
        Check.due("7 stays after an appeal", x.evidence(0, true, 1), 14);
        Check.due("7 stays on both sides", x.evidence(0, false, 1), 4);
    }

    private static void decideGrants() {
        Peatland x = new Peatland();
        x.register(Peatland.CUT, 0, 4, 0);
        mapped(x, 3, 0, 11);
        x.evidence(0, false, 4);
        x.evidence(0, true, 5);
        Check.due("8 more evidence for it", x.decide(0), 4);
        Check.due("29 granted", x.caseAt(0, 0), Peatland.GRANTED);
        Check.due("29 stage", x.caseAt(0, 1), 0);
        Check.due("29 given", x.caseAt(0, 3), 4);
        Check.due("8 new parcel", x.parcelOf(11), 1);
        Check.due("8 its owner", x.owner(1), 3);
        Check.due("8 its area", x.area(1), 4);
        Check.outOfBounds("8 it has no rights", () -> x.rightAt(1, 0));
        mapped(x, 5, 0, 99);
        Check.due("8 all squares", granted(x, 1), 100);
        Check.due("8 the first one", x.parcelOf(0), 2);
        Check.due("8 the last one", x.parcelOf(99), 2);
        x.appeal(1);
        Check.due("8 all come back", refused(x, 1), 100);
        Check.due("8 to where the first one was", x.parcelOf(0), 1);
        Check.due("8 to where the last one was", x.parcelOf(99), 0);
        Check.due("8 the old one has", x.rightAt(0, 1), 0);
    }

    private static void decideTakesFromOthersAlone() {
        Peatland x = new Peatland();
        x.grant(0, 0, 0, 3);
        x.grant(0, 1, 1, 4);
        mapped(x, 3, 0, 2);
        x.evidence(0, true, 1);
        Check.due("8 of others and of the state", x.decide(0), 2);
        Check.due("8 own one stays", x.parcelOf(0), 1);
        Check.due("8 one of another person", x.parcelOf(1), 3);
        Check.due("8 one of the state", x.parcelOf(2), 3);
        Check.due("29 own one is not given", x.caseAt(0, 3), 2);
        mapped(x, 3, 0, 2);
        x.evidence(1, true, 1);
        Check.due("8 all are its own", x.decide(1), 0);
        Check.due("8 no new parcel", x.parcels(), 4);
        Check.due("29 granted all the same", x.caseAt(1, 0), Peatland.GRANTED);
        Check.due("29 gives none", x.caseAt(1, 3), 0);
    }

    private static void decideRefuses() {
        Peatland x = new Peatland();
        mapped(x, 3, 0, 11);
        Check.due("8 no evidence", x.decide(0), 0);
        Check.due("29 refused", x.caseAt(0, 0), Peatland.REFUSED);
        x.appeal(0);
        x.evidence(0, true, 5);
        x.evidence(0, false, 5);
        Check.due("8 as much on both sides", x.decide(0), 0);
        Check.due("29 refused again", x.caseAt(0, 0), Peatland.REFUSED);
        x.appeal(0);
        x.evidence(0, true, 1);
        Check.due("8 more for it", x.decide(0), 4);
        Check.due("29 granted at last", x.caseAt(0, 0), Peatland.GRANTED);
    }

    private static void decideNeedsAParcel() {
        Peatland x = new Peatland();
        mapped(x, 0, 98, 99);
        mapped(x, 0, 97, 97);
        x.evidence(0, true, 1);
        for (int i = 1; i < 40; i++) {
            x.grant(0, i, i, i % 12);
        }
        Check.badState("8 there are 40", () -> x.decide(0));
        Check.due("29 still open", x.caseAt(0, 0), Peatland.OPEN);
        Check.due("8 nothing moved", x.parcelOf(99), 0);
        Check.due("8 refused needs none", x.decide(1), 0);
        mapped(x, 1, 1, 1);
        x.evidence(2, true, 1);
        Check.due("8 its own needs none", x.decide(2), 0);
        Check.due("29 granted", x.caseAt(2, 0), Peatland.GRANTED);
    }

    private static void greaterStageHolds() {
        Peatland x = new Peatland();
        mapped(x, 1, 0, 3);
        mapped(x, 2, 2, 5);
        x.decide(0);
        x.appeal(0);
        Check.due("8 at the stage 1", granted(x, 0), 4);
        Check.due("8 at the stage 0, but not those", granted(x, 1), 2);
        Check.due("8 the greater stage keeps", x.parcelOf(2), 1);
        Check.due("8 the rest", x.parcelOf(4), 2);
        Check.due("29 given", x.caseAt(1, 3), 2);
        x.appeal(1);
        Check.due("8 at the same stage", granted(x, 1), 2);
        Check.due("8 they are taken", x.parcelOf(2), 3);
        Check.due("29 given by the other one", x.caseAt(0, 3), 2);
        Check.due("29 given by this one", x.caseAt(1, 3), 4);
        x.appeal(0);
        Check.due("8 at a greater one", granted(x, 0), 2);
        Check.due("8 taken back", x.parcelOf(2), 4);
        mapped(x, 3, 0, 9);
        Check.due("8 what nobody holds at a greater stage", granted(x, 2), 4);
        Check.due("8 stage 1 holds against 0", x.parcelOf(4), 2);
        Check.due("8 stage 2 holds against 0", x.parcelOf(0), 1);
    }

    private static void lastGrantedStageHolds() {
        Peatland x = new Peatland();
        mapped(x, 1, 0, 1);
        mapped(x, 2, 0, 1);
        granted(x, 0);
        x.appeal(0);
        Check.due("29 stays given while it is open", x.caseAt(0, 3), 2);
        Check.due("8 it was granted at the stage 0", granted(x, 1), 2);
        Check.due("29 gives none", x.caseAt(0, 3), 0);
        Check.due("29 still open", x.caseAt(0, 0), Peatland.OPEN);
        Check.due("8 granted at the stage 1", granted(x, 0), 2);
        x.appeal(1);
        x.appeal(0);
        Check.due("8 1 is not greater than 1", granted(x, 1), 2);
        Check.due("8 2 is greater than 1", granted(x, 0), 2);
        mapped(x, 3, 0, 1);
        Check.due("8 the kept ones too", granted(x, 2), 0);
        x.grant(x.parcelOf(0), 0, 0, 5);
        x.appeal(2);
        x.decide(2);
        Check.due("8 held in the parcels of others too", x.caseAt(2, 3), 0);
    }

    private static void givenInOtherParcels() {
        Peatland x = new Peatland();
        x.grant(0, 0, 1, 7);
        mapped(x, 1, 0, 3);
        granted(x, 0);
        x.grant(2, 1, 2, 8);
        x.grant(2, 3, 3, 1);
        x.merge(4, 2);
        Check.due("29 given, in whatever parcels", x.caseAt(0, 3), 4);
        x.appeal(0);
        Check.due("8 all come back", refused(x, 0), 4);
        Check.due("8 back to the person's", x.parcelOf(0), 1);
        Check.due("8 back to the person's", x.parcelOf(1), 1);
        Check.due("8 back to the state's", x.parcelOf(2), 0);
        Check.due("8 back to the state's", x.parcelOf(3), 0);
        Check.due("29 given by none", x.caseAt(0, 3), 0);
        Check.due("26 area of the others", x.area(2) + x.area(3) + x.area(4), 0);
        x.appeal(0);
        Check.due("8 nothing to give back", refused(x, 0), 0);
    }

    private static void takenAgainFromOthers() {
        Peatland x = new Peatland();
        mapped(x, 1, 0, 1);
        granted(x, 0);
        x.grant(1, 1, 1, 8);
        x.appeal(0);
        Check.due("8 its own given one is taken again", granted(x, 0), 1);
        Check.due("8 a new parcel", x.parcelOf(1), 3);
        Check.due("8 the other one stays", x.parcelOf(0), 1);
        x.appeal(0);
        Check.due("8 both come back", refused(x, 0), 2);
        Check.due("8 to that from which it was taken first", x.parcelOf(0), 0);
        Check.due("8 to that from which it was taken last", x.parcelOf(1), 2);
    }

    private static void comesBackToMerged() {
        Peatland x = new Peatland();
        x.grant(0, 0, 1, 7);
        x.grant(0, 50, 50, 7);
        mapped(x, 1, 0, 1);
        granted(x, 0);
        x.merge(1, 2);
        x.appeal(0);
        Check.due("8 come back", refused(x, 0), 2);
        Check.due("8 into which it was merged", x.parcelOf(0), 2);
        Check.due("25 by the number of then", x.chain(0, 0), 2);
        Check.due("25 ahead of that", x.chain(0, 1), 3);
        Check.due("25 ahead of that", x.chain(0, 2), 1);
        Check.due("26 area", x.area(2), 3);
    }

    private static void comesBackToWhereItIs() {
        Peatland x = new Peatland();
        mapped(x, 1, 0, 1);
        granted(x, 0);
        x.grant(1, 1, 1, 2);
        x.die(2);
        x.merge(2, 0);
        x.appeal(0);
        Check.due("8 one is there already", refused(x, 0), 1);
        Check.due("25 it did not move", x.chain(1, 0), 0);
        Check.due("25 its way", x.chain(1, 1), 2);
        Check.due("29 given by none", x.caseAt(0, 3), 0);
        Check.due("26 area", x.area(0), 100);
    }

    private static void givenByOneAlone() {
        Peatland x = new Peatland();
        mapped(x, 1, 0, 1);
        mapped(x, 2, 1, 2);
        granted(x, 0);
        Check.due("8 one of them from the other case", granted(x, 1), 2);
        Check.due("29 given by the first", x.caseAt(0, 3), 1);
        x.appeal(0);
        Check.due("8 only what it gives comes back", refused(x, 0), 1);
        Check.due("8 not that of the second", x.parcelOf(1), 2);
        x.appeal(1);
        Check.due("8 both of the second", refused(x, 1), 2);
        Check.due("8 to the parcel from which it was taken", x.parcelOf(1), 1);
        Check.due("27 of the first's person", x.owner(1), 1);
        Check.due("29 not given by the first again", x.caseAt(0, 3), 0);
    }

    private static void decideRefused() {
        Peatland x = new Peatland();
        Check.outOfBounds("8 no case yet", () -> x.decide(0));
        Check.outOfBounds("9 no case yet", () -> x.appeal(0));
        mapped(x, 1, 0, 1);
        Check.outOfBounds("8 below", () -> x.decide(-1));
        Check.outOfBounds("8 above", () -> x.decide(1));
        x.decide(0);
        Check.badState("8 refused", () -> x.decide(0));
        x.appeal(0);
        granted(x, 0);
        Check.badState("8 granted", () -> x.decide(0));
    }

    private static void appeals() {
        Peatland x = new Peatland();
        mapped(x, 1, 0, 1);
        Check.badState("9 open", () -> x.appeal(0));
        Check.outOfBounds("9 below", () -> x.appeal(-1));
        Check.outOfBounds("9 above", () -> x.appeal(1));
        granted(x, 0);
        Check.due("9 one that was granted", x.appeal(0), 1);
        Check.due("29 open", x.caseAt(0, 0), Peatland.OPEN);
        Check.due("29 stage", x.caseAt(0, 1), 1);
        Check.due("29 stays given", x.caseAt(0, 3), 2);
        Check.due("9 nothing moves", x.parcelOf(0), 1);
        refused(x, 0);
        Check.due("9 one that was refused", x.appeal(0), 2);
        x.decide(0);
        Check.badState("9 at the stage 2", () -> x.appeal(0));
        Check.due("29 stage 2", x.caseAt(0, 1), 2);
        mapped(x, 1, 5, 6);
        granted(x, 1);
        x.die(1);
        Check.badState("9 its person is dead", () -> x.appeal(1));
        Check.due("29 stays granted", x.caseAt(1, 0), Peatland.GRANTED);
        Check.due("29 stays given", x.caseAt(1, 3), 2);
    }

    private static void askedRefused() {
        Peatland x = new Peatland();
        Check.outOfBounds("28 below", () -> x.disputed(-1));
        Check.outOfBounds("28 above", () -> x.disputed(100));
        Check.outOfBounds("29 no case yet", () -> x.caseAt(0, 0));
        mapped(x, 1, 0, 1);
        Check.outOfBounds("29 below", () -> x.caseAt(-1, 0));
        Check.outOfBounds("29 above", () -> x.caseAt(1, 0));
        Check.outOfBounds("29 what below", () -> x.caseAt(0, -1));
        Check.outOfBounds("29 what above", () -> x.caseAt(0, 4));
    }
}
