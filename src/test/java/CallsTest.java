/** The sentences of the promises 2 to 12 that name a boundary; each has a test. */
final class CallsTest {
    private CallsTest() {
    }

    public static void main(String[] args) {
        grantAtTheEdges();
        grantOfNone();
        grantOfNoField();
        grantWithoutSquare();
        grantToTheDead();
        grantWithFortyParcels();
        grantWithEightyRights();
        mergeOfAll();
        mergeOfNone();
        mergeOfTheSame();
        mergeOfOtherOwners();
        mergeWithEightyRights();
        surveyAtTheEdges();
        surveyOfNone();
        surveyOfNoField();
        surveyOfTheDead();
        surveyWithTwelve();
        useAtTheEdges();
        useOfNone();
        useOfNoField();
        useOfTheDead();
        fileAtTheEdges();
        fileOfNone();
        fileOfNoField();
        fileOfTheDead();
        fileWithoutSquare();
        fileWithSixteen();
        evidenceAtTheEdges();
        evidenceOfNoCase();
        evidenceOutOfRange();
        evidenceOfOneNotOpen();
        decideCounts();
        decideOfNoCase();
        decideOfOneNotOpen();
        decideWithFortyParcels();
        decideWithoutNewParcel();
        appealToTheLastStage();
        appealOfNoCase();
        appealOfOneThatIsOpen();
        appealAtTheLastStage();
        appealOfTheDead();
        registerAtTheEdges();
        registerOfNone();
        registerOutOfRange();
        registerOtherShares();
        registerForTheDead();
        registerTwice();
        registerWithEighty();
        releaseAtTheEdges();
        releaseOfNone();
        grazeAtTheEdges();
        grazeOfNone();
        grazeOutOfRange();
        grazeAboveWorth();
        Check.end("CallsTest");
    }

    private static final int LEAST = Integer.MIN_VALUE;
    private static final int MOST = Integer.MAX_VALUE;

    // Promise 2: "from: 0 to 99" "to: 0 to 99" "person: 0 to 11" "Returns the number of the new parcel."
    private static void grantAtTheEdges() {
        Peatland x = new Peatland();
        Check.due("the first square, the first person", x.grant(0, 0, 0, 0), 1);
        Check.due("the last square, the last person", x.grant(0, 99, 99, 11), 2);
        Check.due("the whole moor", x.grant(0, 0, 99, 5), 3);
        Check.due("98 squares", x.area(3), 98);
        Check.due("from the last parcel", x.grant(3, 0, 99, 5), 4);
        Check.badState("the first parcel has none", () -> x.grant(0, 0, 99, 5));
    }

    // Promise 2: "Throws IndexOutOfBoundsException if there is no such parcel, square or person"
    private static void grantOfNone() {
        Peatland x = new Peatland();
        for (int bad : new int[] {-1, 1, 40, LEAST, MOST}) {
            Check.outOfBounds("parcel " + bad, () -> x.grant(bad, 0, 0, 0));
        }
        for (int bad : new int[] {-1, 100, LEAST, MOST}) {
            Check.outOfBounds("from " + bad, () -> x.grant(0, bad, 99, 0));
            Check.outOfBounds("to " + bad, () -> x.grant(0, 0, bad, 0));
        }
        for (int bad : new int[] {-1, 12, LEAST, MOST}) {
            Check.outOfBounds("person " + bad, () -> x.grant(0, 0, 0, bad));
        }
        Check.due("nothing was granted", x.parcels(), 1);
    }

    // Promise 2: "Throws IllegalArgumentException if both squares are no field"
    private static void grantOfNoField() {
        Peatland x = new Peatland();
        Check.badArgument("a column down", () -> x.grant(0, 11, 20, 0));
        Check.badArgument("a row down", () -> x.grant(0, 11, 2, 0));
        Check.due("neither", x.grant(0, 11, 11, 0), 1);
    }

    // Promise 2: "Throws IllegalStateException if no square of the field is of the parcel"
    private static void grantWithoutSquare() {
        Peatland x = new Peatland();
        x.grant(0, 0, 11, 1);
        Check.badState("none of the parcel 0", () -> x.grant(0, 0, 11, 1));
        Check.badState("none of the parcel 1", () -> x.grant(1, 2, 99, 1));
        Check.due("one of the parcel 0", x.grant(0, 0, 2, 1), 2);
        Check.due("one of the parcel 1", x.grant(1, 11, 99, 1), 3);
        Check.due("one square each", x.area(2) + x.area(3), 2);
    }

    // Promise 2: "the person is dead"
    private static void grantToTheDead() {
        Peatland x = new Peatland();
        x.die(4);
        Check.badState("the dead", () -> x.grant(0, 0, 0, 4));
        Check.due("others", x.grant(0, 0, 0, 5), 1);
    }

    // Promise 2: "there are 40 parcels"
    private static void grantWithFortyParcels() {
        Peatland x = new Peatland();
        for (int i = 1; i < 39; i++) {
            x.grant(0, i, i, 0);
        }
        x.merge(1, 2);
        Check.due("with 39", x.grant(0, 50, 50, 0), 39);
        Check.badState("with 40", () -> x.grant(0, 51, 51, 0));
        Check.due("it is still the state's", x.parcelOf(51), 0);
    }

    // Promise 2: "or there would be more than 80 rights"
    private static void grantWithEightyRights() {
        Peatland x = new Peatland();
        Scene.addRights(x, 0, 20);
        Scene.addEndedRights(x, 40);
        Check.due("80 rights then", x.grant(0, 0, 0, 0), 1);
        Check.due("the last one", x.rightAt(79, 1), 1);
        Peatland y = new Peatland();
        Scene.addRights(y, 0, 20);
        Scene.addEndedRights(y, 41);
        Check.badState("81 rights then", () -> y.grant(0, 0, 0, 0));
        Check.due("no parcel", y.parcels(), 1);
        Check.outOfBounds("no right", () -> y.rightAt(61, 0));
        y.release(7);
        Check.due("without an ended one", y.grant(0, 0, 0, 0), 1);
    }

    // Promise 3: "Returns how many squares that has then."
    private static void mergeOfAll() {
        Peatland x = new Peatland();
        x.grant(0, 0, 0, 3);
        x.grant(0, 0, 99, 3);
        Check.due("all squares", x.merge(1, 2), 100);
        x.grant(2, 0, 99, 4);
        x.grant(3, 0, 0, 4);
        Check.due("all again", x.merge(3, 4), 100);
        Check.due("the first of all parcels has none", x.area(0), 0);
    }

    // Promise 3: "Throws IndexOutOfBoundsException if there is no such parcel, of either"
    private static void mergeOfNone() {
        Peatland x = new Peatland();
        x.grant(0, 0, 0, 3);
        x.die(3);
        for (int bad : new int[] {-1, 2, 40, LEAST, MOST}) {
            Check.outOfBounds("parcel " + bad, () -> x.merge(bad, 0));
            Check.outOfBounds("into " + bad, () -> x.merge(0, bad));
            Check.outOfBounds("both " + bad, () -> x.merge(bad, bad));
        }
        Check.due("the last one", x.merge(1, 0), 100);
    }

    // Promise 3: "Throws IllegalStateException if both are the same"
    private static void mergeOfTheSame() {
        Peatland x = new Peatland();
        x.grant(0, 0, 0, 3);
        x.grant(0, 1, 1, 3);
        Check.badState("the parcel 0", () -> x.merge(0, 0));
        Check.badState("the parcel 1", () -> x.merge(1, 1));
        x.merge(1, 2);
        Check.badState("the same by two numbers", () -> x.merge(1, 2));
        Check.badState("the same by two numbers, back", () -> x.merge(2, 1));
        Check.badState("the same by a merged number", () -> x.merge(1, 1));
    }

    // Promise 3: "have not the same owner"
    private static void mergeOfOtherOwners() {
        Peatland x = new Peatland();
        x.grant(0, 0, 0, 0);
        x.grant(0, 1, 1, 1);
        x.grant(0, 2, 2, 0);
        Check.badState("two persons", () -> x.merge(1, 2));
        Check.badState("the state's into a person's", () -> x.merge(0, 1));
        Check.badState("a person's into the state's", () -> x.merge(1, 0));
        Check.due("the same person", x.merge(1, 3), 2);
        x.name(1, 0);
        x.die(1);
        Check.due("the same since it was inherited", x.merge(2, 3), 3);
    }

    // Promise 3: "or there would be more than 80 rights"
    private static void mergeWithEightyRights() {
        Peatland x = twoParcelsWithRights(41);
        Check.due("80 rights then", x.merge(1, 2), 2);
        Check.due("the last one", x.rightAt(79, 4), 19);
        Peatland y = twoParcelsWithRights(42);
        Check.badState("81 rights then", () -> y.merge(1, 2));
        Check.due("nothing ended", y.rightAt(0, 1), 1);
        Check.due("nothing moved", y.area(2), 1);
        Check.outOfBounds("nothing came", () -> y.rightAt(62, 0));
        y.release(12);
        Check.badState("one that is there already does not count", () -> y.merge(1, 2));
        y.release(19);
        Check.due("without a missing one", y.merge(1, 2), 2);
        Check.due("the last one", y.rightAt(79, 4), 18);
    }

    /** Of the person 1: the parcel 1 with 20 rights, the parcel 2 with one of them; so many have ended. */
    private static Peatland twoParcelsWithRights(int ended) {
        Peatland x = new Peatland();
        x.grant(0, 0, 0, 1);
        x.grant(0, 1, 1, 1);
        Scene.addRights(x, 1, 20);
        x.register(Peatland.CUT, 2, 0, 0);
        Scene.addEndedRights(x, ended - 1);
        return x;
    }

    // Promise 4: "person: 0 to 11" "from: 0 to 99" "to: 0 to 99" "Returns how many maps there are then."
    private static void surveyAtTheEdges() {
        Peatland x = new Peatland();
        Check.due("the first ones", x.survey(0, 0, 0), 1);
        Check.due("the last ones", x.survey(11, 99, 99), 2);
        Check.due("the first and the last", x.survey(0, 0, 99), 3);
        Check.due("told by both", x.disputed(99), 2);
        x.die(0);
        Check.due("how many there are then", x.survey(11, 0, 0), 2);
    }

    // Promise 4: "Throws IndexOutOfBoundsException if there is no such person or square"
    private static void surveyOfNone() {
        Peatland x = new Peatland();
        for (int bad : new int[] {-1, 12, LEAST, MOST}) {
            Check.outOfBounds("person " + bad, () -> x.survey(bad, 0, 0));
        }
        for (int bad : new int[] {-1, 100, LEAST, MOST}) {
            Check.outOfBounds("from " + bad, () -> x.survey(0, bad, 99));
            Check.outOfBounds("to " + bad, () -> x.survey(0, 0, bad));
        }
        Check.due("none was drawn", x.survey(0, 0, 0), 1);
    }

    // Promise 4: "Throws IllegalArgumentException if both squares are no field"
    private static void surveyOfNoField() {
        Peatland x = new Peatland();
        Check.badArgument("a column down", () -> x.survey(0, 11, 20));
        Check.badArgument("a row down", () -> x.survey(0, 11, 2));
        Check.due("none was drawn", x.survey(0, 11, 11), 1);
    }

    // Promise 4: "Throws IllegalStateException if the person is dead"
    private static void surveyOfTheDead() {
        Peatland x = new Peatland();
        x.die(0);
        Check.badState("the dead", () -> x.survey(0, 0, 0));
        Check.due("none was drawn", x.survey(1, 0, 0), 1);
    }

    // Promise 4: "or there are 12"
    private static void surveyWithTwelve() {
        Peatland x = Scene.twelveMaps();
        Check.badState("with 12", () -> x.survey(0, 0, 0));
        Check.due("none was drawn", x.disputed(0), 1);
        x.die(3);
        Check.due("all 12 ended", x.survey(0, 0, 0), 1);
    }

    // Promise 5: "person: 0 to 11" "from: 0 to 99" "to: 0 to 99" "Returns how many squares the person uses then, in all."
    private static void useAtTheEdges() {
        Peatland x = new Peatland();
        Check.due("the first ones", x.use(0, 0, 0), 1);
        Check.due("the last ones", x.use(11, 99, 99), 1);
        Check.due("all", x.use(5, 0, 99), 100);
        Check.due("all again", x.use(5, 0, 0), 100);
        Check.due("one of them", x.use(0, 0, 0), 1);
        Check.due("the rest", x.use(5, 1, 1), 99);
    }

    // Promise 5: "Throws IndexOutOfBoundsException if there is no such person or square"
    private static void useOfNone() {
        Peatland x = new Peatland();
        for (int bad : new int[] {-1, 12, LEAST, MOST}) {
            Check.outOfBounds("person " + bad, () -> x.use(bad, 0, 0));
        }
        for (int bad : new int[] {-1, 100, LEAST, MOST}) {
            Check.outOfBounds("from " + bad, () -> x.use(0, bad, 99));
            Check.outOfBounds("to " + bad, () -> x.use(0, 0, bad));
        }
        Check.due("none is used", x.use(0, 5, 5), 1);
    }

    // Promise 5: "Throws IllegalArgumentException if both squares are no field"
    private static void useOfNoField() {
        Peatland x = new Peatland();
        Check.badArgument("a column down", () -> x.use(0, 11, 20));
        Check.badArgument("a row down", () -> x.use(0, 11, 2));
        Check.due("none is used", x.use(0, 11, 11), 1);
    }

    // Promise 5: "Throws IllegalStateException if the person is dead"
    private static void useOfTheDead() {
        Peatland x = new Peatland();
        x.die(0);
        Check.badState("the dead", () -> x.use(0, 0, 0));
        Check.due("nobody uses it", x.square(0, 3), -1);
    }

    // Promise 6: "person: 0 to 11" "from: 0 to 99" "to: 0 to 99" "Returns the number of the case."
    // Promise 6: "isByUse: whether by use, otherwise by maps"
    private static void fileAtTheEdges() {
        Peatland x = new Peatland();
        x.survey(0, 0, 0);
        x.survey(11, 99, 99);
        x.use(5, 50, 59);
        Scene.passDays(x, 720);
        Check.due("the first ones", x.file(0, false, 0, 0), 0);
        Check.due("the last ones", x.file(11, false, 99, 99), 1);
        Check.due("the whole moor", x.file(5, true, 0, 99), 2);
        Check.due("one square", x.caseAt(1, 2), 1);
        Check.due("a row", x.caseAt(2, 2), 10);
        Check.badState("use is no map", () -> x.file(5, false, 0, 99));
        Check.badState("a map is no use", () -> x.file(0, true, 0, 99));
    }

    // Promise 6: "Throws IndexOutOfBoundsException if there is no such person or square"
    private static void fileOfNone() {
        Peatland x = new Peatland();
        x.survey(0, 0, 99);
        for (int bad : new int[] {-1, 12, LEAST, MOST}) {
            Check.outOfBounds("person " + bad, () -> x.file(bad, false, 0, 0));
        }
        for (int bad : new int[] {-1, 100, LEAST, MOST}) {
            Check.outOfBounds("from " + bad, () -> x.file(0, false, bad, 99));
            Check.outOfBounds("to " + bad, () -> x.file(0, false, 0, bad));
        }
        Check.due("none was filed", x.file(0, false, 0, 0), 0);
    }

    // Promise 6: "Throws IllegalArgumentException if both squares are no field"
    private static void fileOfNoField() {
        Peatland x = new Peatland();
        x.survey(0, 0, 99);
        Check.badArgument("a column down", () -> x.file(0, false, 11, 20));
        Check.badArgument("a row down", () -> x.file(0, false, 11, 2));
        Check.due("none was filed", x.file(0, false, 11, 11), 0);
    }

    // Promise 6: "Throws IllegalStateException if the person is dead"
    private static void fileOfTheDead() {
        Peatland x = new Peatland();
        x.survey(0, 0, 99);
        x.use(0, 0, 99);
        Scene.passDays(x, 720);
        x.die(0);
        Check.badState("the dead, by maps", () -> x.file(0, false, 0, 99));
        Check.badState("the dead, by use", () -> x.file(0, true, 0, 99));
        Check.outOfBounds("none was filed", () -> x.caseAt(0, 0));
    }

    // Promise 6: "it would have no square"
    private static void fileWithoutSquare() {
        Peatland x = new Peatland();
        x.survey(0, 0, 11);
        x.use(0, 50, 51);
        Check.badState("beside the map", () -> x.file(0, false, 2, 99));
        Check.badState("used for 0 days", () -> x.file(0, true, 0, 99));
        Scene.passDays(x, 720);
        Check.badState("beside the use", () -> x.file(0, true, 52, 99));
        Check.due("one square", x.file(0, false, 11, 99), 0);
        Check.due("one square by use", x.file(0, true, 51, 99), 1);
    }

    // Promise 6: "or there are 16"
    private static void fileWithSixteen() {
        Peatland x = Scene.sixteenCases();
        Check.badState("with 16", () -> x.file(3, false, 0, 0));
        for (int i = 0; i < 16; i++) {
            x.decide(i);
        }
        Check.badState("with 16 that were decided", () -> x.file(3, false, 0, 0));
        x.die(3);
        x.survey(4, 0, 0);
        Check.badState("with 16 of a dead person", () -> x.file(4, false, 0, 0));
    }

    // Promise 7: "weight: 1 to 9" "Returns the evidence on that side then."
    private static void evidenceAtTheEdges() {
        Peatland x = new Peatland();
        Scene.mapped(x, 3, 0, 0);
        Check.due("the least for it", x.evidence(0, true, 1), 1);
        Check.due("the most for it", x.evidence(0, true, 9), 10);
        Check.due("the most against it", x.evidence(0, false, 9), 9);
        Check.due("the least against it", x.evidence(0, false, 1), 10);
        for (int i = 2; i <= 50; i++) {
            Check.due("many times", x.evidence(0, true, 9), 1 + 9 * i);
        }
        Check.due("the other side stays", x.evidence(0, false, 1), 11);
    }

    // Promise 7: "Throws IndexOutOfBoundsException if there is no such case"
    private static void evidenceOfNoCase() {
        Peatland x = new Peatland();
        Check.outOfBounds("none yet", () -> x.evidence(0, true, 1));
        Scene.mapped(x, 3, 0, 0);
        for (int bad : new int[] {-1, 1, 16, LEAST, MOST}) {
            Check.outOfBounds("case " + bad, () -> x.evidence(bad, true, 1));
        }
        Check.due("the last one", x.evidence(0, true, 1), 1);
    }

    // Promise 7: "Throws IllegalArgumentException if weight is out of range"
    private static void evidenceOutOfRange() {
        Peatland x = new Peatland();
        Scene.mapped(x, 3, 0, 0);
        for (int bad : new int[] {0, 10, -1, LEAST, MOST}) {
            Check.badArgument("for it, weight " + bad, () -> x.evidence(0, true, bad));
            Check.badArgument("against it, weight " + bad, () -> x.evidence(0, false, bad));
        }
        Check.due("nothing was added for it", x.evidence(0, true, 1), 1);
        Check.due("nothing was added against it", x.evidence(0, false, 1), 1);
    }

    // Promise 7: "Throws IllegalStateException if it is not OPEN"
    private static void evidenceOfOneNotOpen() {
        Peatland x = new Peatland();
        Scene.mapped(x, 3, 0, 0);
        x.decide(0);
        Check.badState("REFUSED", () -> x.evidence(0, true, 1));
        x.appeal(0);
        Check.due("OPEN again", x.evidence(0, true, 1), 1);
        x.decide(0);
        Check.badState("GRANTED", () -> x.evidence(0, true, 1));
        x.appeal(0);
        Check.due("nothing was added", x.evidence(0, true, 1), 2);
    }

    // Promise 8: "Returns how many squares come to another parcel by that."
    private static void decideCounts() {
        Peatland x = new Peatland();
        x.grant(0, 0, 0, 3);
        Scene.mapped(x, 3, 0, 99);
        Check.due("REFUSED, it gave none", Scene.lose(x, 0), 0);
        x.appeal(0);
        Check.due("GRANTED, all but its own", Scene.win(x, 0), 99);
        x.grant(2, 99, 99, 5);
        x.die(5);
        x.merge(3, 0);
        x.appeal(0);
        Check.due("REFUSED, but one is there already", Scene.lose(x, 0), 98);
        Check.due("all are back", x.area(0), 99);
    }

    // Promise 8: "Throws IndexOutOfBoundsException if there is no such case"
    private static void decideOfNoCase() {
        Peatland x = new Peatland();
        Check.outOfBounds("none yet", () -> x.decide(0));
        Scene.mapped(x, 3, 0, 0);
        for (int bad : new int[] {-1, 1, 16, LEAST, MOST}) {
            Check.outOfBounds("case " + bad, () -> x.decide(bad));
        }
        Check.due("the last one", x.decide(0), 0);
    }

    // Promise 8: "Throws IllegalStateException if it is not OPEN"
    private static void decideOfOneNotOpen() {
        Peatland x = new Peatland();
        Scene.mapped(x, 3, 0, 0);
        x.decide(0);
        Check.badState("REFUSED", () -> x.decide(0));
        x.appeal(0);
        x.evidence(0, true, 1);
        x.decide(0);
        Check.badState("GRANTED", () -> x.decide(0));
        Check.due("one new parcel", x.parcels(), 2);
    }

    // Promise 8: "or a new parcel would be needed, and there are 40"
    private static void decideWithFortyParcels() {
        Peatland x = new Peatland();
        Scene.mapped(x, 3, 98, 99);
        Scene.mapped(x, 4, 96, 97);
        for (int i = 1; i < 39; i++) {
            x.grant(0, i, i, 0);
        }
        Check.due("with 39", Scene.win(x, 0), 2);
        x.evidence(1, true, 1);
        Check.badState("with 40", () -> x.decide(1));
        Check.due("still OPEN", x.caseAt(1, 0), Peatland.OPEN);
        Check.due("nothing came", x.parcelOf(96), 0);
        Check.due("gives none", x.caseAt(1, 3), 0);
    }

    // Promise 8: "or a new parcel would be needed, and there are 40"
    private static void decideWithoutNewParcel() {
        Peatland x = new Peatland();
        Scene.mapped(x, 3, 99, 99);
        Scene.mapped(x, 1, 1, 1);
        Scene.win(x, 0);
        x.appeal(0);
        for (int i = 1; i < 39; i++) {
            x.grant(0, i, i, 1);
        }
        Check.due("there are 40", x.parcels(), 40);
        Check.due("REFUSED needs none", Scene.lose(x, 0), 1);
        Check.due("GRANTED its own needs none", Scene.win(x, 1), 0);
        Check.due("it is GRANTED", x.caseAt(1, 0), Peatland.GRANTED);
    }

    // Promise 9: "Returns its stage then."
    private static void appealToTheLastStage() {
        Peatland x = new Peatland();
        Scene.mapped(x, 3, 0, 0);
        x.decide(0);
        Check.due("the stage 1", x.appeal(0), 1);
        x.decide(0);
        Check.due("the stage 2", x.appeal(0), 2);
        Check.due("as told", x.caseAt(0, 1), 2);
    }

    // Promise 9: "Throws IndexOutOfBoundsException if there is no such case"
    private static void appealOfNoCase() {
        Peatland x = new Peatland();
        Check.outOfBounds("none yet", () -> x.appeal(0));
        Scene.mapped(x, 3, 0, 0);
        x.decide(0);
        for (int bad : new int[] {-1, 1, 16, LEAST, MOST}) {
            Check.outOfBounds("case " + bad, () -> x.appeal(bad));
        }
        Check.due("the last one", x.appeal(0), 1);
    }

    // Promise 9: "Throws IllegalStateException if it is OPEN"
    private static void appealOfOneThatIsOpen() {
        Peatland x = new Peatland();
        Scene.mapped(x, 3, 0, 0);
        Check.badState("OPEN at first", () -> x.appeal(0));
        x.decide(0);
        x.appeal(0);
        Check.badState("OPEN again", () -> x.appeal(0));
        Check.due("its stage stays", x.caseAt(0, 1), 1);
    }

    // Promise 9: "at the stage 2"
    private static void appealAtTheLastStage() {
        Peatland x = new Peatland();
        Scene.mapped(x, 3, 0, 0);
        x.decide(0);
        x.appeal(0);
        x.decide(0);
        x.appeal(0);
        Check.due("REFUSED", x.decide(0), 0);
        Check.badState("at the stage 2", () -> x.appeal(0));
        Check.due("REFUSED still", x.caseAt(0, 0), Peatland.REFUSED);
        Check.due("at the stage 2 still", x.caseAt(0, 1), 2);
    }

    // Promise 9: "or its person is dead"
    private static void appealOfTheDead() {
        Peatland x = new Peatland();
        Scene.mapped(x, 3, 0, 0);
        Scene.mapped(x, 3, 1, 1);
        Scene.mapped(x, 4, 2, 2);
        Scene.win(x, 0);
        x.decide(2);
        x.die(3);
        Check.badState("GRANTED", () -> x.appeal(0));
        Check.badState("REFUSED by that", () -> x.appeal(1));
        Check.due("another one's", x.appeal(2), 1);
    }

    // Promise 10: "kind: 0 to 2" "person: 0 to 11" "shares: 1 to 99 for GRAZE" "Returns the number of the right."
    private static void registerAtTheEdges() {
        Peatland x = new Peatland();
        x.grant(0, 0, 49, 0);
        Check.due("the least shares", x.register(0, 0, 0, 1), 0);
        Check.due("the most shares", x.register(0, 1, 11, 99), 1);
        Check.due("the last kind", x.register(2, 1, 11, 0), 2);
        Check.due("worth of the least", x.rightAt(0, 3), 1);
        Check.due("worth of the most", x.rightAt(1, 3), 99);
    }

    // Promise 10: "Throws IndexOutOfBoundsException if there is no such kind, parcel or person"
    private static void registerOfNone() {
        Peatland x = new Peatland();
        for (int bad : new int[] {-1, 3, LEAST, MOST}) {
            Check.outOfBounds("kind " + bad, () -> x.register(bad, 0, 0, 1));
        }
        for (int bad : new int[] {-1, 1, 40, LEAST, MOST}) {
            Check.outOfBounds("parcel " + bad, () -> x.register(0, bad, 0, 1));
        }
        for (int bad : new int[] {-1, 12, LEAST, MOST}) {
            Check.outOfBounds("person " + bad, () -> x.register(0, 0, bad, 1));
        }
        Check.due("none was registered", x.register(0, 0, 0, 1), 0);
    }

    // Promise 10: "Throws IllegalArgumentException if shares is out of range"
    private static void registerOutOfRange() {
        Peatland x = new Peatland();
        for (int bad : new int[] {0, 100, -1, LEAST, MOST}) {
            Check.badArgument("shares " + bad, () -> x.register(0, 0, 0, bad));
        }
        Check.due("none was registered", x.register(0, 0, 0, 1), 0);
    }

    // Promise 10: "not looked at for others"
    private static void registerOtherShares() {
        Peatland x = new Peatland();
        int number = 0;
        for (int any : new int[] {0, 100, -1, LEAST, MOST}) {
            Check.due("CUT, shares " + any, x.register(1, 0, number, any), 2 * number);
            Check.due("BURN, shares " + any, x.register(2, 0, number, any), 2 * number + 1);
            number++;
        }
        x.register(0, 0, 0, 99);
        Check.due("they take no room", x.rightAt(10, 3), 99);
    }

    // Promise 10: "Throws IllegalStateException if the person is dead"
    private static void registerForTheDead() {
        Peatland x = new Peatland();
        x.die(3);
        for (int kind = 0; kind < 3; kind++) {
            int each = kind;
            Check.badState("kind " + kind, () -> x.register(each, 0, 3, 1));
        }
        Check.outOfBounds("none was registered", () -> x.rightAt(0, 0));
    }

    // Promise 10: "or has a right of the kind on the parcel"
    private static void registerTwice() {
        Peatland x = new Peatland();
        x.register(1, 0, 3, 0);
        Check.badState("the same", () -> x.register(1, 0, 3, 0));
        Check.due("another kind", x.register(2, 0, 3, 0), 1);
        Check.due("another person", x.register(1, 0, 4, 0), 2);
        x.grant(0, 0, 0, 0);
        Check.badState("one that came", () -> x.register(1, 1, 3, 0));
        x.release(3);
        Check.due("one that has ended", x.register(1, 1, 3, 0), 6);
        Check.badState("on the old one it has not", () -> x.register(1, 0, 3, 0));
    }

    // Promise 10: "or there are 80"
    private static void registerWithEighty() {
        Peatland x = new Peatland();
        Scene.addRights(x, 0, 36);
        x.grant(0, 0, 0, 0);
        for (int i = 72; i < 80; i++) {
            x.release(36);
            Check.due("right " + i, x.register(0, 1, 0, 1), i);
            x.release(i);
        }
        Check.badState("with 80", () -> x.register(0, 1, 0, 1));
        Check.outOfBounds("none was registered", () -> x.rightAt(80, 0));
    }

    // Promise 11: "Returns whether it was one that had not ended."
    private static void releaseAtTheEdges() {
        Peatland x = new Peatland();
        Scene.addRights(x, 0, 36);
        x.grant(0, 0, 0, 0);
        Check.due("the first", x.release(0), true);
        Check.due("the first again", x.release(0), false);
        Check.due("the last", x.release(71), true);
        Check.due("the last again", x.release(71), false);
        x.die(1);
        Check.due("one that ended by a death", x.release(1), false);
    }

    // Promise 11: "Throws IndexOutOfBoundsException if there was no such right"
    private static void releaseOfNone() {
        Peatland x = new Peatland();
        Check.outOfBounds("none yet", () -> x.release(0));
        x.register(1, 0, 0, 0);
        for (int bad : new int[] {-1, 1, 80, LEAST, MOST}) {
            Check.outOfBounds("right " + bad, () -> x.release(bad));
        }
        Check.due("the last one", x.release(0), true);
    }

    // Promise 12: "person: 0 to 11" "sheep: 0 to 400" "Returns how many there were."
    private static void grazeAtTheEdges() {
        Peatland x = new Peatland();
        x.register(0, 0, 0, 99);
        x.register(0, 0, 11, 99);
        Check.due("the most there can be", x.graze(0, 0, 99), 0);
        Check.due("the last person", x.graze(11, 0, 99), 0);
        Check.due("none again", x.graze(0, 0, 0), 99);
        Check.due("none", x.graze(0, 0, 0), 0);
        Check.due("none without a right", x.graze(5, 0, 0), 0);
    }

    // Promise 12: "Throws IndexOutOfBoundsException if there is no such person or parcel"
    private static void grazeOfNone() {
        Peatland x = new Peatland();
        for (int bad : new int[] {-1, 12, LEAST, MOST}) {
            Check.outOfBounds("person " + bad, () -> x.graze(bad, 0, 0));
        }
        for (int bad : new int[] {-1, 1, 40, LEAST, MOST}) {
            Check.outOfBounds("parcel " + bad, () -> x.graze(0, bad, 0));
        }
    }

    // Promise 12: "Throws IllegalArgumentException if sheep is out of range"
    private static void grazeOutOfRange() {
        Peatland x = new Peatland();
        x.register(0, 0, 0, 99);
        x.graze(0, 0, 7);
        for (int bad : new int[] {-1, 401, LEAST, MOST}) {
            Check.badArgument("sheep " + bad, () -> x.graze(0, 0, bad));
        }
        Check.badState("400 are in range, but more than worth", () -> x.graze(0, 0, 400));
        Check.due("they stay", x.sheep(0, 0), 7);
    }

    // Promise 12: "Throws IllegalStateException if they are more than the person's rights there are worth"
    private static void grazeAboveWorth() {
        Peatland x = new Peatland();
        x.grant(0, 0, 0, 3);
        x.register(0, 1, 4, 99);
        x.register(0, 0, 5, 99);
        Check.badState("3 with room for 2", () -> x.graze(4, 1, 3));
        Check.due("2", x.graze(4, 1, 2), 0);
        Check.badState("1 with a right elsewhere", () -> x.graze(5, 1, 1));
        Check.badState("1 with no right", () -> x.graze(3, 1, 1));
        x.release(0);
        Check.badState("1 with one that has ended", () -> x.graze(4, 1, 1));
        Check.due("they stay", x.graze(4, 1, 0), 2);
        x.register(1, 1, 4, 99);
        Check.badState("1 with CUT", () -> x.graze(4, 1, 1));
    }
}
