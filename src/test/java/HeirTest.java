/** Promises 20 and 21: heirs, and what a death ends. */
final class HeirTest {
    private HeirTest() {
    }

    public static void main(String[] args) {
        names();
        nameRefused();
        parcelsInTurns();
        onlyLivingHeirs();
        toTheState();
        mergedAndEmptyParcels();
        whatEnds();
        openCases();
        openCasesOfOthers();
        dieRefused();
        Check.end("HeirTest");
    }

    private static void names() {
        Peatland x = new Peatland();
        Check.due("20 first", x.name(0, 1), 1);
        Check.due("20 second", x.name(0, 11), 2);
        Check.due("20 third", x.name(0, 2), 3);
        Check.badState("20 there are 3", () -> x.name(0, 3));
        Check.due("20 each other", x.name(1, 0), 1);
        Check.due("20 of two persons", x.name(1, 2), 2);
    }

    private static void nameRefused() {
        Peatland x = new Peatland();
        x.name(0, 1);
        x.name(0, 9);
        x.die(9);
        Check.outOfBounds("20 person below", () -> x.name(-1, 0));
        Check.outOfBounds("20 person above", () -> x.name(12, 0));
        Check.outOfBounds("20 heir below", () -> x.name(0, -1));
        Check.outOfBounds("20 heir above", () -> x.name(0, 12));
        Check.outOfBounds("20 heir ahead of the dead", () -> x.name(9, 12));
        Check.badState("20 itself", () -> x.name(0, 0));
        Check.badState("20 one that is named", () -> x.name(0, 1));
        Check.badState("20 a dead heir", () -> x.name(1, 9));
        Check.badState("20 a dead person", () -> x.name(9, 1));
        Check.due("20 the dead one is named still", x.name(0, 2), 3);
        Check.badState("20 there are 3, with the dead one", () -> x.name(0, 3));
    }

    private static void parcelsInTurns() {
        Peatland x = new Peatland();
        int[] owners = {0, 0, 1, 0, 0, 0};
        for (int i = 0; i < owners.length; i++) {
            x.grant(0, i, i, owners[i]);
        }
        x.name(0, 7);
        x.name(0, 5);
        Check.due("21 parcels to heirs", x.die(0), 5);
        Check.due("21 first", x.owner(1), 7);
        Check.due("21 second", x.owner(2), 5);
        Check.due("21 another person's", x.owner(3), 1);
        Check.due("21 third", x.owner(4), 7);
        Check.due("21 fourth", x.owner(5), 5);
        Check.due("21 fifth", x.owner(6), 7);
        Check.due("21 the state's", x.owner(0), -1);
        Check.due("21 squares stay", x.parcelOf(0), 1);
        Check.due("21 next one without heirs", x.die(7), 0);
        Check.due("21 to the state", x.owner(1), -1);
    }

    private static void onlyLivingHeirs() {
        Peatland x = new Peatland();
        x.grant(0, 0, 0, 0);
        x.grant(0, 1, 1, 0);
        x.grant(0, 2, 2, 0);
        x.name(0, 1);
        x.name(0, 2);
        x.name(0, 3);
        x.die(2);
        Check.due("21 parcels to heirs", x.die(0), 3);
        Check.due("21 first", x.owner(1), 1);
        Check.due("21 the dead one is passed by", x.owner(2), 3);
        Check.due("21 first again", x.owner(3), 1);
        Peatland y = new Peatland();
        y.grant(0, 0, 0, 0);
        y.name(0, 1);
        y.die(1);
        Check.due("21 no heir is alive", y.die(0), 0);
        Check.due("21 to the state", y.owner(1), -1);
    }

    private static void toTheState() {
        Peatland x = new Peatland();
        x.grant(0, 0, 0, 0);
        x.register(Peatland.CUT, 1, 4, 0);
        Check.due("21 without heirs", x.die(0), 0);
        Check.due("21 owner", x.owner(1), -1);
        Check.due("21 rights of others stay", x.cut(4, 0, 1), 49);
        Check.due("21 of the state", x.merge(1, 0), 100);
    }

    private static void mergedAndEmptyParcels() {
        Peatland x = new Peatland();
        x.grant(0, 0, 0, 0);
        x.grant(0, 1, 1, 0);
        x.grant(0, 2, 2, 0);
        x.merge(1, 3);
        x.grant(2, 1, 1, 5);
        x.name(0, 7);
        x.name(0, 8);
        Check.due("21 without squares too, but not merged ones", x.die(0), 2);
        Check.due("21 the empty one", x.owner(2), 7);
        Check.due("21 the next one", x.owner(3), 8);
        Check.due("21 as that into which it was merged", x.owner(1), 8);
    }

    private static void whatEnds() {
        Peatland x = new Peatland();
        x.grant(0, 0, 9, 1);
        x.register(Peatland.GRAZE, 0, 5, 10);
        x.register(Peatland.GRAZE, 1, 5, 10);
        x.register(Peatland.GRAZE, 1, 6, 10);
        x.register(Peatland.BURN, 1, 5, 0);
        x.graze(5, 0, 10);
        x.graze(5, 1, 10);
        x.graze(6, 1, 9);
        x.survey(5, 0, 0);
        x.survey(6, 0, 0);
        x.survey(5, 0, 5);
        x.use(5, 0, 5);
        x.use(6, 5, 6);
        x.die(5);
        Check.due("21 right", x.rightAt(0, 0), -1);
        Check.due("21 right", x.rightAt(1, 0), -1);
        Check.due("21 right", x.rightAt(3, 0), -1);
        Check.due("21 right of another", x.rightAt(2, 3), 10);
        Check.due("21 ended already", x.release(0), false);
        Check.due("21 sheep", x.sheep(5, 0), 0);
        Check.due("21 sheep", x.sheep(5, 1), 0);
        Check.due("21 sheep of another", x.sheep(6, 1), 9);
        Check.due("21 maps", x.disputed(0), 1);
        Check.due("21 maps", x.disputed(5), 0);
        Check.due("21 count of maps", x.survey(7, 0, 0), 2);
        Check.due("21 uses", x.square(0, 3), -1);
        Check.due("21 uses of another", x.square(5, 3), 6);
    }

    private static void openCases() {
        Peatland x = new Peatland();
        x.survey(1, 0, 9);
        x.name(1, 2);
        x.file(1, false, 0, 1);
        x.file(1, false, 2, 3);
        x.file(1, false, 4, 5);
        for (int i = 0; i < 3; i++) {
            x.evidence(i, true, 1);
            x.decide(i);
        }
        x.appeal(0);
        x.appeal(2);
        x.evidence(0, true, 9);
        x.file(1, false, 9, 9);
        Check.due("21 those that it gave go too", x.die(1), 3);
        Check.due("29 open one is refused", x.caseAt(0, 0), Peatland.REFUSED);
        Check.due("29 its stage", x.caseAt(0, 1), 1);
        Check.due("29 gives none", x.caseAt(0, 3), 0);
        Check.due("29 the next one too", x.caseAt(2, 0), Peatland.REFUSED);
        Check.due("29 the granted one stays", x.caseAt(1, 0), Peatland.GRANTED);
        Check.due("29 and what it gives", x.caseAt(1, 3), 2);
        Check.due("29 one that gave nothing", x.caseAt(3, 0), Peatland.REFUSED);
        Check.due("21 squares came back", x.parcelOf(0), 0);
        Check.due("21 squares came back", x.parcelOf(5), 0);
        Check.due("21 those stay", x.parcelOf(2), 2);
        Check.due("27 of the heir", x.owner(2), 2);
        Check.due("26 the heir's without squares", x.area(1) + x.area(3), 0);
        Check.due("27 of the heir", x.owner(1), 2);
        Check.badState("9 no appeal", () -> x.appeal(1));
        Check.badState("9 no appeal", () -> x.appeal(0));
        Check.badState("8 nothing to decide", () -> x.decide(0));
        Check.badState("7 no evidence", () -> x.evidence(0, true, 1));
    }

    private static void openCasesOfOthers() {
        Peatland x = new Peatland();
        x.survey(1, 0, 9);
        x.survey(2, 0, 9);
        x.file(1, false, 0, 1);
        x.file(2, false, 0, 1);
        x.die(1);
        Check.due("29 refused", x.caseAt(0, 0), Peatland.REFUSED);
        Check.due("29 another person's is open", x.caseAt(1, 0), Peatland.OPEN);
        x.evidence(1, true, 1);
        Check.due("8 it is decided", x.decide(1), 2);
    }

    private static void dieRefused() {
        Peatland x = new Peatland();
        Check.outOfBounds("21 below", () -> x.die(-1));
        Check.outOfBounds("21 above", () -> x.die(12));
        Check.due("21 first", x.die(11), 0);
        Check.badState("21 dead already", () -> x.die(11));
        Check.badState("21 dead, survey", () -> x.survey(11, 0, 0));
        Check.badState("21 dead, use", () -> x.use(11, 0, 0));
        Check.badState("21 dead, grant", () -> x.grant(0, 0, 0, 11));
    }
}
