import java.util.ArrayList;
import java.util.Arrays;
import java.util.List;
import java.util.function.Consumer;

/** Each call changes what the document says, and nothing beside it: all that is asked and done then. */
final class ChangesTest {
    private ChangesTest() {
    }

    public static void main(String[] args) {
        grantChanges();
        grantOfGivenSquares();
        mergeChanges();
        mergeOfGivenSquares();
        surveyChanges();
        useChanges();
        fileChanges();
        evidenceChanges();
        decideWithoutSquares();
        decideThatRefuses();
        decideThatGrants();
        appealChanges();
        registerChanges();
        releaseChanges();
        grazeChanges();
        rainChanges();
        digChanges();
        fillChanges();
        cutChanges();
        windChanges();
        burnChanges();
        passChanges();
        nameChanges();
        dieAsUser();
        dieAsKeeper();
        dieWithHeirs();
        dieWithOpenCase();
        Check.end("ChangesTest");
    }

    /**
     * Day 800, 80 of its year. Parcels: 0 the state's, 1 of the person 0, 2 and 3 of 1, 4 of 5, 5 of 6.
     * The parcel 2 has 1 sheep more than room. All squares have 28 of water, but 20 and 22, whose drains
     * filled 21, and 60, whose drain filled 61, from which a new one goes on. The cases 0 GRANTED, 1 OPEN at the stage 1 with two squares given, 2 OPEN at the stage 0.
     */
    private static Peatland moor() {
        Peatland x = new Peatland();
        x.grant(0, 0, 33, 0);
        x.grant(0, 4, 35, 1);
        x.register(Peatland.GRAZE, 1, 2, 6);
        x.register(Peatland.CUT, 1, 3, 0);
        x.register(Peatland.BURN, 0, 4, 0);
        x.register(Peatland.CUT, 0, 3, 0);
        x.register(Peatland.GRAZE, 2, 2, 16);
        x.graze(2, 1, 6);
        x.graze(2, 2, 15);
        x.use(5, 40, 41);
        x.survey(6, 41, 42);
        x.survey(7, 42, 43);
        x.name(0, 1);
        x.name(0, 2);
        x.name(1, 2);
        Scene.passDays(x, 700);
        x.rain(28);
        x.dig(60, 61);
        x.dig(20, 21);
        x.dig(22, 21);
        x.pass(80);
        x.grant(2, 4, 4, 1);
        x.pass(20);
        x.burn(4, 99);
        x.file(5, true, 40, 41);
        x.file(6, false, 41, 42);
        x.file(7, false, 42, 43);
        Scene.win(x, 0);
        Scene.win(x, 1);
        x.appeal(1);
        x.wind(2);
        x.dig(61, 62);
        return x;
    }

    private static void asked(String what, Consumer<Peatland> call, String... due) {
        same(what + ", asked", Scene.changes(ChangesTest::moor, call), due);
    }

    private static void cases(String what, Consumer<Peatland> call, String... due) {
        same(what + ", cases", Scene.changesOfCases(ChangesTest::moor, call), due);
    }

    private static void days(String what, Consumer<Peatland> call, String... due) {
        same(what + ", days", Scene.changesOfDays(ChangesTest::moor, call), due);
    }

    private static void deaths(String what, Consumer<Peatland> call, String... due) {
        same(what + ", deaths", Scene.changesOfDeaths(ChangesTest::moor, call), due);
    }

    private static void same(String what, List<String> got, String... due) {
        List<String> missing = new ArrayList<>(Arrays.asList(due));
        missing.removeAll(got);
        List<String> beside = new ArrayList<>(got);
        beside.removeAll(Arrays.asList(due));
        Check.due(what + ": it does not change " + missing, missing.size(), 0);
        Check.due(what + ": it changes " + beside, beside.size(), 0);
    }

    private static String[] with(List<String> all, String... more) {
        all.addAll(Arrays.asList(more));
        return all.toArray(new String[0]);
    }

    /** What the parcel 6 shows that it did not show before. */
    private static List<String> parcelSix(int owner, int area) {
        List<String> all = new ArrayList<>();
        all.add("parcels: 6 > 7");
        all.add("area 6: none > " + area);
        all.add("owner 6: none > " + owner);
        for (int p = 0; p < 12; p++) {
            all.add("sheep " + p + " 6: none > 0");
        }
        return all;
    }

    /** That it is the person 7's, and 10's as the heir of that, and the state's as 10 dies. */
    private static List<String> parcelSixAtDeaths() {
        List<String> all = new ArrayList<>();
        for (int p = 0; p < 12; p++) {
            all.add("owner of 6 after " + p + ": none > " + (p < 7 ? 7 : p < 10 ? 10 : -1));
        }
        all.add("die 7: 0 > 1");
        return all;
    }

    // Promise 2: "Grants a field of a parcel to a person."
    private static void grantChanges() {
        Consumer<Peatland> call = x -> x.grant(1, 11, 11, 7);
        asked("grant", call, with(parcelSix(7, 1),
            "parcelOf 11: 1 > 6", "area 1: 16 > 15",
            "chain 11 0: 1 > 6", "chain 11 1: 0 > 1", "chain 11 2: -1 > 0",
            "rightAt 6 0: none > 0", "rightAt 6 1: none > 6", "rightAt 6 2: none > 2",
            "rightAt 6 3: none > 2", "rightAt 6 4: none > 0",
            "rightAt 7 0: none > 1", "rightAt 7 1: none > 6", "rightAt 7 2: none > 3",
            "rightAt 7 3: none > 0", "rightAt 7 4: none > 1"));
        cases("grant", call);
        days("grant", call,
            "burn 11 by 0 in year 0: 45 > refused", "burn 11 by 0 in year 3: 42 > refused",
            "peat of 11 in year 0: 45 > 51", "peat of 11 in year 1: 46 > 52",
            "peat of 11 in year 2: 47 > 53", "peat of 11 in year 3: 42 > 54",
            "paid 0 in year 0: 134 > 132", "paid 0 in year 1: 268 > 257",
            "paid 0 in year 2: 402 > 382", "paid 0 in year 3: 525 > 503",
            "paid 7 in year 0: 0 > 9", "paid 7 in year 1: 0 > 18",
            "paid 7 in year 2: 0 > 27", "paid 7 in year 3: 0 > 36");
        deaths("grant", call, with(parcelSixAtDeaths(), "register: 6 > 8"));
    }

    // Promise 2: "Grants a field of a parcel to a person."
    private static void grantOfGivenSquares() {
        Consumer<Peatland> call = x -> x.grant(5, 40, 49, 7);
        asked("grant of what a case gave", call, with(parcelSix(7, 2), "area 5: 2 > 0",
            "parcelOf 41: 5 > 6", "chain 41 0: 5 > 6", "chain 41 1: 4 > 5", "chain 41 2: 0 > 4", "chain 41 3: -1 > 0",
            "parcelOf 42: 5 > 6", "chain 42 0: 5 > 6", "chain 42 1: 0 > 5", "chain 42 2: -1 > 0"));
        cases("grant of what a case gave", call, "decide 1: 0 > 2",
            "parcel of 41 after 0: 5 > 6", "parcel of 42 after 0: 5 > 6");
        days("grant of what a case gave", call,
            "paid 6 in year 0: 22 > 0", "paid 6 in year 1: 44 > 0",
            "paid 6 in year 2: 66 > 0", "paid 6 in year 3: 88 > 0",
            "paid 7 in year 0: 0 > 22", "paid 7 in year 1: 0 > 44",
            "paid 7 in year 2: 0 > 66", "paid 7 in year 3: 0 > 88");
    }

    // Promise 3: "Merges a parcel into another one."
    private static void mergeChanges() {
        Consumer<Peatland> call = x -> x.merge(3, 2);
        asked("merge", call,
            "parcelOf 4: 3 > 2", "area 2: 7 > 8", "area 3: 1 > 8", "sheep 2 3: 0 > 15",
            "chain 4 0: 3 > 2", "chain 4 1: 2 > 3", "chain 4 2: 0 > 2", "chain 4 3: -1 > 0",
            "rightAt 4 3: 14 > 16", "rightAt 5 0: 0 > -1", "rightAt 5 1: 3 > -1",
            "rightAt 5 2: 2 > -1", "rightAt 5 3: 2 > -1", "rightAt 5 4: 4 > -1");
        cases("merge", call);
        days("merge", call, roomForAll());
        deaths("merge", call, "die 1: 3 > 2", "owner of 3 after 1: 2 > 10", "die 2: 2 > 1");
    }

    // Promise 3: "Merges a parcel into another one."
    private static void mergeOfGivenSquares() {
        Consumer<Peatland> call = x -> x.merge(x.grant(5, 41, 41, 6), 5);
        List<String> all = parcelSix(6, 2);
        asked("merge of what a case gave", call, with(all,
            "chain 41 1: 4 > 6", "chain 41 2: 0 > 5", "chain 41 3: -1 > 4"));
        cases("merge of what a case gave", call);
        days("merge of what a case gave", call);
    }

    /** The parcel 2 has room for its sheep again, and its square 5 keeps peat, and so birds. */
    private static String[] roomForAll() {
        return new String[] {
            "peat of 5 in year 0: 1 > 31", "peat of 5 in year 1: 1 > 32",
            "peat of 5 in year 2: 1 > 33", "peat of 5 in year 3: 1 > 34",
            "paid 1 in year 0: 31 > 82", "paid 1 in year 1: 53 > 164",
            "paid 1 in year 2: 75 > 246", "paid 1 in year 3: 97 > 328"};
    }

    // Promise 4: "Draws a map."
    private static void surveyChanges() {
        Consumer<Peatland> call = x -> x.survey(7, 98, 99);
        asked("survey", call, "disputed 98: 0 > 1", "disputed 99: 0 > 1");
        cases("survey", call, "survey: 3 > 4", "map of all: 3 > 4",
            "squares 5: 2 > 4", "decide 5: 0 > 2", "given 5: 0 > 2");
        days("survey", call);
        deaths("survey", call);
    }

    // Promise 5: "Lets a person use a field."
    private static void useChanges() {
        Consumer<Peatland> call = x -> x.use(7, 41, 42);
        asked("use", call, "square 41 3: 5 > 7", "square 42 3: -1 > 7");
        cases("use", call, "use 5: 3 > 2", "use 7: 1 > 3", "squares 3: 2 > 1");
        days("use", call);
        deaths("use", call);
    }

    // Promise 6: "Files a case."
    private static void fileChanges() {
        Consumer<Peatland> call = x -> x.file(6, false, 42, 42);
        asked("file", call, "caseAt 3 0: none > 0", "caseAt 3 1: none > 0",
            "caseAt 3 2: none > 1", "caseAt 3 3: none > 0");
        cases("file", call, "file by use 5: 3 > 4", "file by maps 6: 4 > 5", "file by maps 7: 5 > 6",
            "squares 3: 2 > 1", "squares 6: none > 2", "for 6: none > 2", "against 6: none > 1",
            "decide 6: none > 0", "given 6: none > 0", "appeal 6: none > 1",
            "appeal again 3: none > refused", "lose 3: none > 0");
        days("file", call);
        deaths("file", call);
    }

    // Promise 7: "Adds evidence."
    private static void evidenceChanges() {
        Consumer<Peatland> isFor = x -> x.evidence(2, true, 1);
        asked("evidence for it", isFor);
        cases("evidence for it", isFor, "for 2: 2 > 3");
        days("evidence for it", isFor);
        deaths("evidence for it", isFor);
        Consumer<Peatland> against = x -> x.evidence(2, false, 1);
        asked("evidence against it", against);
        cases("evidence against it", against, "against 2: 1 > 2", "decide 2: 1 > 0", "given 2: 1 > 0",
            "decide 5: 0 > 1", "given 5: 0 > 1");
        days("evidence against it", against);
        deaths("evidence against it", against);
    }

    // Promise 8: "Decides a case."
    private static void decideWithoutSquares() {
        Consumer<Peatland> call = x -> x.decide(1);
        asked("decide, its own", call, "caseAt 1 0: 0 > 1");
        cases("decide, its own", call, "for 1: 11 > refused", "against 1: 2 > refused", "decide 1: 0 > refused",
            "appeal again 1: refused > 2", "take all: 100 > 98",
            "owner of the parcel of 41: 8 > 6", "owner of the parcel of 42: 8 > 6");
        days("decide, its own", call);
        deaths("decide, its own", call);
    }

    // Promise 8: "Decides a case."
    private static void decideThatRefuses() {
        Consumer<Peatland> call = x -> x.decide(2);
        asked("decide, REFUSED", call, "caseAt 2 0: 0 > 2");
        cases("decide, REFUSED", call, "for 2: 2 > refused", "against 2: 1 > refused",
            "decide 2: 1 > refused", "given 2: 1 > 0", "decide 5: 0 > 1", "given 5: 0 > 1",
            "appeal again 2: refused > 1");
        days("decide, REFUSED", call);
        deaths("decide, REFUSED", call);
    }

    // Promise 8: "Decides a case."
    private static void decideThatGrants() {
        Consumer<Peatland> call = x -> {
            x.evidence(2, true, 1);
            x.decide(2);
        };
        asked("decide, GRANTED", call, with(parcelSix(7, 2),
            "parcelOf 42: 5 > 6", "parcelOf 43: 0 > 6", "area 0: 73 > 72", "area 5: 2 > 1",
            "chain 42 0: 5 > 6", "chain 42 1: 0 > 5", "chain 42 2: -1 > 0",
            "chain 43 0: 0 > 6", "chain 43 1: -1 > 0",
            "caseAt 2 0: 0 > 1", "caseAt 1 3: 2 > 1", "caseAt 2 3: 0 > 2"));
        cases("decide, GRANTED", call, "for 2: 2 > refused", "against 2: 1 > refused",
            "decide 2: 1 > refused", "decide 1: 0 > 1", "lose 1: 2 > 1",
            "parcel of 42 after 0: 5 > 6", "parcel of 43 after 0: 0 > 6",
            "parcel of 42 after 1: 0 > 6", "parcel of 43 after 1: 0 > 6",
            "appeal again 2: refused > 1", "lose 2: 0 > 2",
            "parcel of 42 after 2: 0 > 5", "parcel of 42 after 3: 0 > 5");
        days("decide, GRANTED", call,
            "paid 6 in year 0: 22 > 11", "paid 6 in year 1: 44 > 22",
            "paid 6 in year 2: 66 > 33", "paid 6 in year 3: 88 > 44",
            "paid 7 in year 0: 0 > 22", "paid 7 in year 1: 0 > 44",
            "paid 7 in year 2: 0 > 66", "paid 7 in year 3: 0 > 88");
        deaths("decide, GRANTED", call, with(parcelSixAtDeaths()));
    }

    // Promise 9: "Appeals a case."
    private static void appealChanges() {
        Consumer<Peatland> call = x -> x.appeal(0);
        asked("appeal", call, "caseAt 0 0: 1 > 0", "caseAt 0 1: 0 > 1");
        cases("appeal", call, "for 0: refused > 11", "against 0: refused > 2", "decide 0: refused > 1",
            "given 0: 1 > 2", "appeal 0: 1 > 2", "decide 1: 0 > 1", "appeal again 0: 1 > refused");
        days("appeal", call);
        deaths("appeal", call);
    }

    // Promise 10: "Registers a right."
    private static void registerChanges() {
        Consumer<Peatland> call = x -> x.register(Peatland.GRAZE, 1, 7, 3);
        asked("register", call, "rightAt 6 0: none > 0", "rightAt 6 1: none > 1",
            "rightAt 6 2: none > 7", "rightAt 6 3: none > 3", "rightAt 6 4: none > -1");
        cases("register", call);
        days("register", call);
        deaths("register", call, "register: 6 > 7");
    }

    // Promise 11: "Ends a right."
    private static void releaseChanges() {
        Consumer<Peatland> graze = x -> x.release(4);
        asked("release of GRAZE", graze, "rightAt 4 0: 0 > -1", "rightAt 4 1: 2 > -1",
            "rightAt 4 2: 2 > -1", "rightAt 4 3: 14 > -1");
        cases("release of GRAZE", graze);
        days("release of GRAZE", graze);
        deaths("release of GRAZE", graze);
        Consumer<Peatland> burn = x -> x.release(2);
        asked("release of BURN", burn, "rightAt 2 0: 2 > -1", "rightAt 2 1: 0 > -1",
            "rightAt 2 2: 4 > -1", "rightAt 2 3: 0 > -1");
        days("release of BURN", burn,
            "burn 50 by 4 in year 0: 45 > refused", "burn 50 by 4 in year 3: 42 > refused",
            "burn 99 by 4 in year 3: 42 > refused", "peat of 99 in year 3: 42 > 48",
            "peat of 50 in year 0: 45 > 51", "peat of 50 in year 1: 46 > 52",
            "peat of 50 in year 2: 47 > 53", "peat of 50 in year 3: 42 > 54");
    }

    // Promise 12: "Sets how many sheep a person has on a parcel."
    private static void grazeChanges() {
        Consumer<Peatland> call = x -> x.graze(2, 2, 14);
        asked("graze", call, "sheep 2 2: 15 > 14");
        cases("graze", call);
        days("graze", call, roomForAll());
        deaths("graze", call);
    }

    private static int water(int square) {
        if (square == 20 || square == 22 || square == 60) {
            return 3;
        }
        return square == 21 ? 78 : square == 61 ? 53 : 28;
    }

    // Promise 13: "Lets it rain."
    private static void rainChanges() {
        List<String> all = new ArrayList<>();
        for (int s = 0; s < 100; s++) {
            all.add("square " + s + " 1: " + water(s) + " > " + (water(s) + 2));
        }
        Consumer<Peatland> call = x -> x.rain(2);
        asked("rain", call, with(all, "water 0: 2800 > 3000", "water 1: 2800 > 3000"));
        cases("rain", call);
        days("rain", call);
        deaths("rain", call);
        rainThatRunsOff();
    }

    private static void rainThatRunsOff() {
        List<String> all = new ArrayList<>();
        for (int s = 0; s < 100; s++) {
            all.add("square " + s + " 1: " + water(s) + " > 100");
            int column = s % 10;
            int near = (column == 0 || column == 9 ? 2 : 3) * (s < 10 || s > 89 ? 2 : 3);
            boolean isNear21 = Math.abs(column - 1) <= 1 && Math.abs(s / 10 - 2) <= 1;
            if (s != 99) {
                all.add("square " + s + " 2: " + (isNear21 ? 1 : 0) + " > " + near);
            }
        }
        asked("rain that runs off", x -> {
            x.rain(60);
            x.rain(60);
            x.rain(60);
        }, with(all, "water 0: 2800 > 10000", "water 1: 2800 > 20800", "water 2: 0 > 10800"));
    }

    // Promise 14: "Digs a drain."
    private static void digChanges() {
        Consumer<Peatland> call = x -> x.dig(40, 50);
        asked("dig", call);
        cases("dig", call);
        days("dig", call, "burn 50 by 4 in year 3: 42 > refused",
            "water of 40 in year 0: 60 > 20", "water of 40 in year 1: 60 > 20",
            "water of 40 in year 2: 60 > 20", "water of 40 in year 3: 60 > 20",
            "water of 50 in year 0: 60 > 100", "water of 50 in year 1: 60 > 100",
            "water of 50 in year 2: 60 > 100", "water of 50 in year 3: 60 > 100",
            "peat of 40 in year 0: 51 > 50", "peat of 40 in year 1: 52 > 50",
            "peat of 40 in year 2: 53 > 50", "peat of 40 in year 3: 54 > 50", "peat of 50 in year 3: 42 > 48",
            "paid 0 in year 0: 134 > 132", "paid 0 in year 1: 268 > 264",
            "paid 0 in year 2: 402 > 396", "paid 0 in year 3: 525 > 517",
            "paid 5 in year 0: 8 > 5", "paid 5 in year 1: 16 > 10",
            "paid 5 in year 2: 24 > 15", "paid 5 in year 3: 32 > 20",
            "paid 6 in year 0: 22 > 21", "paid 6 in year 1: 44 > 42",
            "paid 6 in year 2: 66 > 63", "paid 6 in year 3: 88 > 84");
        deaths("dig", call, "fill: 3 > 4");
    }

    // Promise 15: "Fills a drain; those behind it are 1 less."
    private static void fillChanges() {
        Consumer<Peatland> call = x -> x.fill(1);
        asked("fill", call);
        cases("fill", call);
        days("fill", call, "paid 0 in year 0: 134 > 141", "paid 0 in year 1: 268 > 283",
            "paid 0 in year 2: 402 > 425", "paid 0 in year 3: 525 > 555");
        deaths("fill", call, "fill: 3 > 2");
    }

    // Promise 16: "Cuts peat."
    private static void cutChanges() {
        Consumer<Peatland> call = x -> x.cut(3, 99, 5);
        asked("cut", call, "square 99 0: 45 > 40");
        cases("cut", call);
        days("cut", call, "peat of 99 in year 0: 45 > 40", "peat of 99 in year 1: 46 > 41",
            "peat of 99 in year 2: 47 > 42", "peat of 99 in year 3: 42 > 37", "burn 99 by 4 in year 3: 42 > 37");
        deaths("cut", call);
    }

    // Promise 17: "Sets the wind."
    private static void windChanges() {
        Consumer<Peatland> call = x -> x.wind(9);
        asked("wind", call);
        cases("wind", call);
        days("wind", call, "wind: 2 > 9");
        deaths("wind", call);
    }

    // Promise 18: "Burns a square."
    private static void burnChanges() {
        Consumer<Peatland> call = x -> x.burn(0, 11);
        asked("burn", call, "square 11 0: 50 > 45", "square 11 2: 1 > 0");
        cases("burn", call);
        days("burn", call, "burn 11 by 0 in year 0: 45 > refused");
        deaths("burn", call);
    }

    // Promise 19: "Lets days pass."
    private static void passChanges() {
        Consumer<Peatland> call = x -> x.pass(2);
        asked("pass", call, "today: 800 > 802", "square 5 0: 30 > 28",
            "square 61 1: 53 > 30", "square 62 1: 28 > 51");
        cases("pass", call);
        deaths("pass", call);
    }

    // Promise 20: "Names an heir."
    private static void nameChanges() {
        Consumer<Peatland> call = x -> x.name(1, 7);
        asked("name", call);
        cases("name", call);
        days("name", call);
        deaths("name", call, "name by 1: 2 > 3",
            "owner of 2 after 1: 10 > 7", "owner of 2 after 2: 10 > 7", "owner of 2 after 3: 10 > 7",
            "owner of 2 after 4: 10 > 7", "owner of 2 after 5: 10 > 7", "owner of 2 after 6: 10 > 7",
            "owner of 3 after 1: 2 > 10", "die 2: 2 > 1", "die 7: 0 > 1");
    }

    // Promise 21: "Tells that a person died."
    private static void dieAsUser() {
        Consumer<Peatland> call = x -> x.die(5);
        asked("death of a user", call, "square 40 3: 5 > -1", "square 41 3: 5 > -1", "owner 4: 5 > -1");
        days("death of a user", call, "paid 5 in year 0: 8 > 0", "paid 5 in year 1: 16 > 0",
            "paid 5 in year 2: 24 > 0", "paid 5 in year 3: 32 > 0");
    }

    // Promise 21: "Tells that a person died."
    private static void dieAsKeeper() {
        Consumer<Peatland> call = x -> x.die(2);
        List<String> ended = new ArrayList<>();
        int[][] told = {{0, 1, 2, 6}, {0, 2, 2, 14}, {0, 3, 2, 2}};
        int[] numbers = {0, 4, 5};
        for (int i = 0; i < numbers.length; i++) {
            for (int what = 0; what < 4; what++) {
                ended.add("rightAt " + numbers[i] + " " + what + ": " + told[i][what] + " > -1");
            }
        }
        asked("death of a keeper", call, with(ended, "rightAt 5 4: 4 > -1", "sheep 2 1: 6 > 0", "sheep 2 2: 15 > 0"));
        cases("death of a keeper", call, "use 2: 1 > refused");
        days("death of a keeper", call, roomForAll());
        deaths("death of a keeper", call, "name by 2: 1 > refused", "die 2: 2 > refused",
            "owner of 1 after 1: 2 > 10", "owner of 3 after 1: 2 > 10");
    }

    // Promise 21: "Tells that a person died."
    private static void dieWithHeirs() {
        Consumer<Peatland> call = x -> x.die(0);
        asked("death with heirs", call, "owner 1: 0 > 1");
        cases("death with heirs", call, "use 0: 1 > refused");
        days("death with heirs", call,
            "burn 0 by 0 in year 0: 45 > refused", "burn 11 by 0 in year 0: 45 > refused",
            "burn 0 by 0 in year 3: 42 > refused", "burn 11 by 0 in year 3: 42 > refused",
            "peat of 0 in year 0: 45 > 51", "peat of 0 in year 1: 46 > 52",
            "peat of 0 in year 2: 47 > 53", "peat of 0 in year 3: 42 > 54",
            "peat of 11 in year 0: 45 > 51", "peat of 11 in year 1: 46 > 52",
            "peat of 11 in year 2: 47 > 53", "peat of 11 in year 3: 42 > 54",
            "paid 0 in year 0: 134 > 11", "paid 0 in year 1: 268 > 11",
            "paid 0 in year 2: 402 > 11", "paid 0 in year 3: 525 > 11",
            "paid 1 in year 0: 31 > 165", "paid 1 in year 1: 53 > 321",
            "paid 1 in year 2: 75 > 477", "paid 1 in year 3: 97 > 633");
        deaths("death with heirs", call, "name by 0: 3 > refused", "die 0: 1 > refused");
    }

    // Promise 21: "Tells that a person died."
    private static void dieWithOpenCase() {
        Consumer<Peatland> call = x -> x.die(6);
        asked("death with an OPEN case", call,
            "parcelOf 41: 5 > 4", "parcelOf 42: 5 > 0", "disputed 41: 1 > 0", "disputed 42: 2 > 1",
            "chain 41 0: 5 > 4", "chain 41 1: 4 > 5", "chain 41 2: 0 > 4", "chain 41 3: -1 > 0",
            "chain 42 0: 5 > 0", "chain 42 1: 0 > 5", "chain 42 2: -1 > 0",
            "area 0: 73 > 74", "area 4: 1 > 2", "area 5: 2 > 0", "owner 5: 6 > -1",
            "caseAt 1 0: 0 > 2", "caseAt 1 3: 2 > 0");
        days("death with an OPEN case", call,
            "paid 5 in year 0: 8 > 19", "paid 5 in year 1: 16 > 38",
            "paid 5 in year 2: 24 > 57", "paid 5 in year 3: 32 > 76",
            "paid 6 in year 0: 22 > 0", "paid 6 in year 1: 44 > 0",
            "paid 6 in year 2: 66 > 0", "paid 6 in year 3: 88 > 0");
    }
}
