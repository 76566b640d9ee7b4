import java.util.function.Consumer;
import java.util.function.Supplier;

/** Refused calls: each reason of each promise changes nothing, and the first that is named is thrown. */
final class RefusedTest {
    private static final int INDEX = 0;
    private static final int ARGUMENT = 1;
    private static final int STATE = 2;

    private RefusedTest() {
    }

    public static void main(String[] args) {
        grantChangesNothing();
        mergeChangesNothing();
        surveyChangesNothing();
        useChangesNothing();
        fileChangesNothing();
        evidenceChangesNothing();
        decideChangesNothing();
        appealChangesNothing();
        registerChangesNothing();
        releaseChangesNothing();
        grazeChangesNothing();
        rainChangesNothing();
        digChangesNothing();
        fillChangesNothing();
        cutChangesNothing();
        windChangesNothing();
        burnChangesNothing();
        passChangesNothing();
        nameChangesNothing();
        dieChangesNothing();
        askingOfNoneChangesNothing();
        indexAheadOfField();
        indexAheadOfRange();
        indexAheadOfState();
        argumentAheadOfState();
        Check.end("RefusedTest");
    }

    private static void refused(Supplier<Peatland> scene, int due, Consumer<Peatland> call) {
        String what = "the call in " + new Throwable().getStackTrace()[1];
        Scene.unchanged(what, scene, x -> throwsAs(what, due, x, call));
    }

    private static void throwsAs(String what, int due, Peatland x, Consumer<Peatland> call) {
        if (due == INDEX) {
            Check.outOfBounds(what, () -> call.accept(x));
        } else if (due == ARGUMENT) {
            Check.badArgument(what, () -> call.accept(x));
        } else {
            Check.badState(what, () -> call.accept(x));
        }
    }

    /** All 12 maps, 16 cases and 20 drains there can be. */
    private static Peatland full() {
        Peatland x = Scene.busy();
        for (int i = 2; i < 12; i++) {
            x.survey(3, 0, 9);
        }
        for (int i = 4; i < 16; i++) {
            x.file(3, false, 0, i % 10);
        }
        for (int i = 2; i < 20; i++) {
            x.dig(i, i + 10);
        }
        return x;
    }

    /** 40 parcels, one case that would need another one. */
    private static Peatland noMoreParcels() {
        Peatland x = Scene.fortyParcels();
        Scene.mapped(x, 3, 90, 99);
        x.evidence(0, true, 1);
        return x;
    }

    /** 70 rights: 12 on the parcel 1 and 2 on the parcel 2, both of the person 0. */
    private static Peatland seventyRights() {
        Peatland x = new Peatland();
        x.grant(0, 0, 4, 0);
        x.grant(0, 10, 14, 0);
        Scene.addRights(x, 1, 12);
        Scene.addRights(x, 2, 1);
        Scene.addEndedRights(x, 57);
        return x;
    }

    private static Peatland lastDays() {
        Peatland x = Scene.busy();
        Scene.passDays(x, 19990 - 800);
        return x;
    }

    // Terms, promise 2: "A call that throws an exception changes nothing."
    private static void grantChangesNothing() {
        refused(Scene::busy, INDEX, x -> x.grant(99, 0, 0, 0));
        refused(Scene::busy, INDEX, x -> x.grant(0, 50, 100, 0));
        refused(Scene::busy, INDEX, x -> x.grant(0, 50, 60, 12));
        refused(Scene::busy, ARGUMENT, x -> x.grant(0, 51, 60, 0));
        refused(Scene::busy, STATE, x -> x.grant(1, 90, 99, 0));
        refused(Scene::busy, STATE, x -> x.grant(0, 50, 60, 9));
        refused(RefusedTest::noMoreParcels, STATE, x -> x.grant(0, 50, 60, 0));
        refused(RefusedTest::seventyRights, STATE, x -> x.grant(1, 0, 0, 5));
    }

    // Terms, promise 3: "A call that throws an exception changes nothing."
    private static void mergeChangesNothing() {
        refused(Scene::busy, INDEX, x -> x.merge(1, 99));
        refused(Scene::busy, INDEX, x -> x.merge(-1, 1));
        refused(Scene::busy, STATE, x -> x.merge(3, 1));
        refused(Scene::busy, STATE, x -> x.merge(1, 2));
        refused(RefusedTest::seventyRights, STATE, x -> x.merge(1, 2));
    }

    // Terms, promise 4: "A call that throws an exception changes nothing."
    private static void surveyChangesNothing() {
        refused(Scene::busy, INDEX, x -> x.survey(12, 0, 99));
        refused(Scene::busy, INDEX, x -> x.survey(5, 0, 100));
        refused(Scene::busy, ARGUMENT, x -> x.survey(5, 9, 90));
        refused(Scene::busy, STATE, x -> x.survey(9, 0, 99));
        refused(RefusedTest::full, STATE, x -> x.survey(5, 0, 99));
    }

    // Terms, promise 5: "A call that throws an exception changes nothing."
    private static void useChangesNothing() {
        refused(Scene::busy, INDEX, x -> x.use(12, 0, 99));
        refused(Scene::busy, INDEX, x -> x.use(4, -1, 99));
        refused(Scene::busy, ARGUMENT, x -> x.use(4, 9, 90));
        refused(Scene::busy, STATE, x -> x.use(9, 0, 99));
    }

    // Terms, promise 6: "A call that throws an exception changes nothing."
    private static void fileChangesNothing() {
        refused(Scene::busy, INDEX, x -> x.file(12, false, 0, 99));
        refused(Scene::busy, INDEX, x -> x.file(5, true, 0, 100));
        refused(Scene::busy, ARGUMENT, x -> x.file(5, false, 9, 90));
        refused(Scene::busy, STATE, x -> x.file(9, false, 0, 99));
        refused(Scene::busy, STATE, x -> x.file(4, true, 0, 99));
        refused(RefusedTest::full, STATE, x -> x.file(5, true, 0, 99));
    }

    // Terms, promise 7: "A call that throws an exception changes nothing."
    private static void evidenceChangesNothing() {
        refused(Scene::busy, INDEX, x -> x.evidence(4, true, 9));
        refused(Scene::busy, ARGUMENT, x -> x.evidence(1, true, 10));
        refused(Scene::busy, ARGUMENT, x -> x.evidence(1, false, 0));
        refused(Scene::busy, STATE, x -> x.evidence(0, false, 9));
        refused(Scene::busy, STATE, x -> x.evidence(3, true, 9));
    }

    // Terms, promise 8: "A call that throws an exception changes nothing."
    private static void decideChangesNothing() {
        refused(Scene::busy, INDEX, x -> x.decide(4));
        refused(Scene::busy, STATE, x -> x.decide(0));
        refused(Scene::busy, STATE, x -> x.decide(3));
        refused(RefusedTest::noMoreParcels, STATE, x -> x.decide(0));
    }

    // Terms, promise 9: "A call that throws an exception changes nothing."
    private static void appealChangesNothing() {
        refused(Scene::busy, INDEX, x -> x.appeal(-1));
        refused(Scene::busy, STATE, x -> x.appeal(1));
        refused(RefusedTest::lastStages, STATE, x -> x.appeal(0));
        refused(RefusedTest::lastStages, STATE, x -> x.appeal(2));
    }

    /** The case 0 was GRANTED at the stage 2, the case 2 is a dead person's. */
    private static Peatland lastStages() {
        Peatland x = Scene.busy();
        x.appeal(0);
        Scene.lose(x, 0);
        x.appeal(0);
        Scene.win(x, 0);
        x.die(6);
        return x;
    }

    // Terms, promise 10: "A call that throws an exception changes nothing."
    private static void registerChangesNothing() {
        refused(Scene::busy, INDEX, x -> x.register(3, 1, 5, 5));
        refused(Scene::busy, INDEX, x -> x.register(0, 99, 5, 5));
        refused(Scene::busy, INDEX, x -> x.register(0, 1, 12, 5));
        refused(Scene::busy, ARGUMENT, x -> x.register(0, 1, 5, 100));
        refused(Scene::busy, STATE, x -> x.register(0, 1, 9, 5));
        refused(Scene::busy, STATE, x -> x.register(0, 1, 2, 5));
        refused(RefusedTest::eightyRights, STATE, x -> x.register(0, 1, 5, 5));
    }

    private static Peatland eightyRights() {
        Peatland x = seventyRights();
        Scene.addEndedRights(x, 10);
        x.release(5);
        return x;
    }

    // Terms, promise 11: "A call that throws an exception changes nothing."
    private static void releaseChangesNothing() {
        refused(Scene::busy, INDEX, x -> x.release(-1));
        refused(Scene::busy, INDEX, x -> x.release(80));
    }

    // Terms, promise 12: "A call that throws an exception changes nothing."
    private static void grazeChangesNothing() {
        refused(Scene::busy, INDEX, x -> x.graze(12, 1, 1));
        refused(Scene::busy, INDEX, x -> x.graze(2, 99, 1));
        refused(Scene::busy, ARGUMENT, x -> x.graze(2, 1, 401));
        refused(Scene::busy, STATE, x -> x.graze(2, 1, 11));
        refused(Scene::busy, STATE, x -> x.graze(5, 1, 1));
    }

    // Terms, promise 13: "A call that throws an exception changes nothing."
    private static void rainChangesNothing() {
        refused(Scene::busy, ARGUMENT, x -> x.rain(0));
        refused(Scene::busy, ARGUMENT, x -> x.rain(61));
    }

    // Terms, promise 14: "A call that throws an exception changes nothing."
    private static void digChangesNothing() {
        refused(Scene::busy, INDEX, x -> x.dig(0, 100));
        refused(Scene::busy, ARGUMENT, x -> x.dig(0, 11));
        refused(Scene::busy, STATE, x -> x.dig(90, 91));
        refused(RefusedTest::full, STATE, x -> x.dig(70, 71));
    }

    // Terms, promise 15: "A call that throws an exception changes nothing."
    private static void fillChangesNothing() {
        refused(Scene::busy, INDEX, x -> x.fill(2));
        refused(Scene::busy, INDEX, x -> x.fill(-1));
    }

    // Terms, promise 16: "A call that throws an exception changes nothing."
    private static void cutChangesNothing() {
        refused(Scene::busy, INDEX, x -> x.cut(12, 0, 1));
        refused(Scene::busy, INDEX, x -> x.cut(0, 100, 1));
        refused(Scene::busy, ARGUMENT, x -> x.cut(0, 0, 21));
        refused(Scene::busy, STATE, x -> x.cut(9, 0, 1));
        refused(Scene::busy, STATE, x -> x.cut(1, 0, 1));
        refused(RefusedTest::nearlyCut, STATE, x -> x.cut(0, 2, 20));
    }

    private static Peatland nearlyCut() {
        Peatland x = Scene.busy();
        x.cut(0, 2, 20);
        x.cut(0, 2, 20);
        return x;
    }

    // Terms, promise 17: "A call that throws an exception changes nothing."
    private static void windChangesNothing() {
        refused(Scene::busy, ARGUMENT, x -> x.wind(-1));
        refused(Scene::busy, ARGUMENT, x -> x.wind(10));
    }

    // Terms, promise 18: "A call that throws an exception changes nothing."
    private static void burnChangesNothing() {
        refused(Scene::busy, INDEX, x -> x.burn(12, 0));
        refused(Scene::busy, INDEX, x -> x.burn(0, 100));
        refused(Scene::busy, STATE, x -> x.burn(9, 1));
        refused(Scene::busy, STATE, x -> x.burn(1, 0));
        refused(Scene::busy, STATE, x -> x.burn(0, 1));
    }

    // Terms, promise 19: "A call that throws an exception changes nothing."
    private static void passChangesNothing() {
        refused(Scene::busy, ARGUMENT, x -> x.pass(0));
        refused(Scene::busy, ARGUMENT, x -> x.pass(201));
        refused(RefusedTest::lastDays, STATE, x -> x.pass(11));
    }

    // Terms, promise 20: "A call that throws an exception changes nothing."
    private static void nameChangesNothing() {
        refused(Scene::busy, INDEX, x -> x.name(12, 5));
        refused(Scene::busy, INDEX, x -> x.name(5, -1));
        refused(Scene::busy, STATE, x -> x.name(0, 9));
        refused(Scene::busy, STATE, x -> x.name(0, 0));
        refused(Scene::busy, STATE, x -> x.name(0, 2));
        refused(RefusedTest::threeHeirs, STATE, x -> x.name(0, 4));
    }

    private static Peatland threeHeirs() {
        Peatland x = Scene.busy();
        x.name(0, 3);
        return x;
    }

    // Terms, promise 21: "A call that throws an exception changes nothing."
    private static void dieChangesNothing() {
        refused(Scene::busy, INDEX, x -> x.die(12));
        refused(Scene::busy, STATE, x -> x.die(9));
    }

    // Terms, promises 24 to 34: "A call that throws an exception changes nothing."
    private static void askingOfNoneChangesNothing() {
        refused(Scene::busy, INDEX, x -> x.parcelOf(100));
        refused(Scene::busy, INDEX, x -> x.chain(0, -1));
        refused(Scene::busy, INDEX, x -> x.area(40));
        refused(Scene::busy, INDEX, x -> x.owner(-1));
        refused(Scene::busy, INDEX, x -> x.disputed(100));
        refused(Scene::busy, INDEX, x -> x.caseAt(0, 4));
        refused(Scene::busy, INDEX, x -> x.rightAt(0, 5));
        refused(Scene::busy, INDEX, x -> x.square(0, 4));
        refused(Scene::busy, INDEX, x -> x.water(4));
        refused(Scene::busy, INDEX, x -> x.paid(12));
        refused(Scene::busy, INDEX, x -> x.sheep(12, 0));
    }

    private static void first(int due, Consumer<Peatland> call) {
        throwsAs("the call in " + new Throwable().getStackTrace()[1], due, full(), call);
    }

    // Terms, promises 2, 4 to 6 and 14: "If several apply, the one that the throws clause names first is thrown."
    private static void indexAheadOfField() {
        first(INDEX, x -> x.grant(99, 1, 0, 0));
        first(INDEX, x -> x.grant(0, 100, 0, 0));
        first(INDEX, x -> x.grant(0, 1, -1, 0));
        first(INDEX, x -> x.grant(0, 1, 0, 12));
        first(INDEX, x -> x.survey(12, 1, 0));
        first(INDEX, x -> x.survey(9, 100, 0));
        first(INDEX, x -> x.use(12, 1, 0));
        first(INDEX, x -> x.use(9, 99, 100));
        first(INDEX, x -> x.file(12, true, 1, 0));
        first(INDEX, x -> x.file(9, false, 1, -1));
        first(INDEX, x -> x.dig(100, 0));
        first(INDEX, x -> x.dig(99, 109));
        first(INDEX, x -> x.dig(0, -1));
    }

    // Terms, promises 7, 10, 12 and 16: "If several apply, the one that the throws clause names first is thrown."
    private static void indexAheadOfRange() {
        first(INDEX, x -> x.evidence(16, true, 0));
        first(INDEX, x -> x.register(3, 0, 0, 0));
        first(INDEX, x -> x.register(0, 99, 0, 0));
        first(INDEX, x -> x.register(0, 0, 12, 100));
        first(INDEX, x -> x.graze(12, 0, -1));
        first(INDEX, x -> x.graze(0, 99, 401));
        first(INDEX, x -> x.cut(12, 0, 0));
        first(INDEX, x -> x.cut(0, 100, 21));
    }

    // Terms, promises 2 to 4, 6, 8 to 10, 12, 14, 16, 18, 20 and 21: "If several apply, the one that the throws clause names first is thrown."
    private static void indexAheadOfState() {
        first(INDEX, x -> x.grant(99, 0, 0, 9));
        first(INDEX, x -> x.merge(99, 99));
        first(INDEX, x -> x.survey(12, 0, 0));
        first(INDEX, x -> x.file(3, true, 0, 100));
        first(INDEX, x -> x.decide(16));
        first(INDEX, x -> x.appeal(16));
        first(INDEX, x -> x.register(0, 99, 9, 1));
        first(INDEX, x -> x.graze(12, 0, 400));
        first(INDEX, x -> x.dig(0, 100));
        first(INDEX, x -> x.cut(9, 100, 1));
        first(INDEX, x -> x.burn(9, 100));
        first(INDEX, x -> x.burn(12, 0));
        first(INDEX, x -> x.name(9, 12));
        first(INDEX, x -> x.name(12, 9));
        first(INDEX, x -> x.name(12, 12));
        first(INDEX, x -> x.die(12));
    }

    // Terms, promises 2, 4 to 7, 10, 12, 14, 16 and 19: "If several apply, the one that the throws clause names first is thrown."
    private static void argumentAheadOfState() {
        first(ARGUMENT, x -> x.grant(1, 99, 90, 0));
        first(ARGUMENT, x -> x.grant(0, 99, 90, 9));
        first(ARGUMENT, x -> x.survey(9, 1, 0));
        first(ARGUMENT, x -> x.survey(3, 10, 0));
        first(ARGUMENT, x -> x.use(9, 1, 0));
        first(ARGUMENT, x -> x.file(9, false, 1, 0));
        first(ARGUMENT, x -> x.file(4, true, 1, 0));
        first(ARGUMENT, x -> x.evidence(0, true, 10));
        first(ARGUMENT, x -> x.register(0, 1, 9, 0));
        first(ARGUMENT, x -> x.register(0, 1, 2, 100));
        first(ARGUMENT, x -> x.graze(9, 1, 401));
        first(ARGUMENT, x -> x.dig(0, 0));
        first(ARGUMENT, x -> x.cut(9, 0, 21));
        first(ARGUMENT, x -> x.cut(1, 0, 0));
        throwsAs("days", ARGUMENT, lastDays(), x -> x.pass(201));
        throwsAs("parcels", ARGUMENT, noMoreParcels(), x -> x.grant(0, 51, 50, 0));
        throwsAs("rights", ARGUMENT, eightyRights(), x -> x.register(0, 0, 0, 0));
        throwsAs("rights", INDEX, eightyRights(), x -> x.register(3, 0, 0, 1));
    }
}
