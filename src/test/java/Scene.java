import java.util.ArrayList;
import java.util.List;
import java.util.function.Consumer;
import java.util.function.Supplier;
import java.util.function.ToIntFunction;

/** Moors that several tests begin with, and what compares two of them within the 512 calls of each. */
final class Scene {
    private static final int CALLS_FOR_QUESTIONS = 250;

    private Scene() {
    }

    static void passDays(Peatland x, int days) {
        for (int left = days; left > 0; left -= 200) {
            x.pass(Math.min(left, 200));
        }
    }

    /** A case of the person for the field, by a map that tells it. */
    static int mapped(Peatland x, int person, int from, int to) {
        x.survey(person, from, to);
        return x.file(person, false, from, to);
    }

    /** Decides for it, whatever the evidence was. */
    static int win(Peatland x, int number) {
        int against = x.evidence(number, false, 1);
        for (int told = 0; told <= against; told += 9) {
            if (x.evidence(number, true, 9) > against) {
                break;
            }
        }
        return x.decide(number);
    }

    /** Decides against it, whatever the evidence was. */
    static int lose(Peatland x, int number) {
        int told = x.evidence(number, true, 1);
        for (int against = 0; against < told; against += 9) {
            if (x.evidence(number, false, 9) >= told) {
                break;
            }
        }
        return x.decide(number);
    }

    /** 40 parcels; the squares 1 to 39 are of those with their numbers, of the persons 0 to 11 in turns. */
    static Peatland fortyParcels() {
        Peatland x = new Peatland();
        for (int i = 1; i < 40; i++) {
            x.grant(0, i, i, i % 12);
        }
        return x;
    }

    /** So many rights that have not ended, at most 36, on the parcel. */
    static void addRights(Peatland x, int parcel, int count) {
        for (int i = 0; i < count; i++) {
            x.register(i / 12, parcel, i % 12, 1);
        }
    }

    /** So many rights that have ended. */
    static void addEndedRights(Peatland x, int count) {
        for (int i = 0; i < count; i++) {
            x.release(x.register(Peatland.CUT, 0, 11, 0));
        }
    }

    /** 12 maps of the person 3, of the square 0 each. */
    static Peatland twelveMaps() {
        Peatland x = new Peatland();
        for (int i = 0; i < 12; i++) {
            x.survey(3, 0, 0);
        }
        return x;
    }

    /** 16 cases of the person 3, for the square 0 each. */
    static Peatland sixteenCases() {
        Peatland x = new Peatland();
        x.survey(3, 0, 99);
        for (int i = 0; i < 16; i++) {
            x.file(3, false, 0, 0);
        }
        return x;
    }

    /** 20 drains, from the squares 0 to 19 down. */
    static Peatland twentyDrains() {
        Peatland x = new Peatland();
        for (int i = 0; i < 20; i++) {
            x.dig(i, i + 10);
        }
        return x;
    }

    /** Only the squares told are wet: each takes water from the one told with it. */
    static Peatland wetOnly(int... froms) {
        Peatland x = new Peatland();
        for (int i = 0; i + 1 < froms.length; i += 2) {
            x.dig(froms[i], froms[i + 1]);
        }
        x.pass(3);
        return x;
    }

    /**
     * Day 800 (80 of its year) with some of everything: merged and empty parcels, rights that ended,
     * too many sheep, cases of all kinds, burnt squares, wet ones, heirs and dead persons.
     */
    static Peatland busy() {
        Peatland x = new Peatland();
        x.grant(0, 0, 33, 0);
        x.grant(0, 4, 37, 1);
        x.grant(1, 0, 11, 0);
        x.register(Peatland.GRAZE, 1, 2, 10);
        x.register(Peatland.GRAZE, 3, 2, 3);
        x.register(Peatland.CUT, 2, 3, 0);
        x.register(Peatland.BURN, 0, 4, 0);
        x.register(Peatland.GRAZE, 2, 3, 50);
        x.graze(2, 1, 10);
        x.graze(2, 3, 3);
        x.graze(3, 2, 32);
        x.use(5, 60, 72);
        x.survey(5, 40, 55);
        x.survey(6, 44, 66);
        x.name(0, 1);
        x.name(0, 2);
        x.dig(90, 91);
        x.dig(91, 92);
        passDays(x, 700);
        x.rain(20);
        x.pass(100);
        x.burn(0, 0);
        x.burn(4, 99);
        x.rain(45);
        casesOfBusy(x);
        x.merge(3, 1);
        x.grant(2, 37, 37, 8);
        x.release(3);
        x.name(8, 9);
        x.die(9);
        x.wind(5);
        return x;
    }

    /** 0 by use and granted, 1 open at the stage 1, 2 granted at the stage 1 from it too, 3 refused. */
    private static void casesOfBusy(Peatland x) {
        x.file(5, true, 60, 72);
        x.file(5, false, 40, 55);
        x.file(6, false, 44, 66);
        x.file(6, false, 44, 44);
        win(x, 0);
        win(x, 1);
        x.appeal(1);
        lose(x, 2);
        x.appeal(2);
        win(x, 2);
        lose(x, 3);
    }

    /** A call whose answer tells something of the moor. */
    private static final class Question {
        final String name;
        final ToIntFunction<Peatland> call;

        Question(String name, ToIntFunction<Peatland> call) {
            this.name = name;
            this.call = call;
        }

        String outcome(Peatland x) {
            try {
                return String.valueOf(call.applyAsInt(x));
            } catch (IndexOutOfBoundsException e) {
                return "none";
            } catch (IllegalArgumentException e) {
                return "bad";
            } catch (IllegalStateException e) {
                return "refused";
            }
        }
    }

    private static void askSquares(List<Question> all) {
        for (int i = 0; i < 100; i++) {
            int s = i;
            all.add(new Question("parcelOf " + s, x -> x.parcelOf(s)));
            all.add(new Question("disputed " + s, x -> x.disputed(s)));
            for (int j = 0; j < 4; j++) {
                int n = j;
                all.add(new Question("chain " + s + " " + n, x -> x.chain(s, n)));
                all.add(new Question("square " + s + " " + n, x -> x.square(s, n)));
            }
        }
    }

    private static void askParcelsAndPersons(List<Question> all) {
        for (int i = 0; i <= 40; i++) {
            int p = i;
            all.add(new Question("area " + p, x -> x.area(p)));
            all.add(new Question("owner " + p, x -> x.owner(p)));
            for (int j = 0; j < 12; j++) {
                int person = j;
                all.add(new Question("sheep " + person + " " + p, x -> x.sheep(person, p)));
            }
        }
        for (int j = 0; j < 12; j++) {
            int person = j;
            all.add(new Question("paid " + person, x -> x.paid(person)));
        }
    }

    private static void askNumbered(List<Question> all) {
        all.add(new Question("today", Peatland::today));
        all.add(new Question("parcels", Peatland::parcels));
        for (int j = 0; j < 5; j++) {
            int n = j;
            all.add(new Question("water " + n, x -> x.water(n)));
            for (int i = 0; i <= 80; i++) {
                int number = i;
                all.add(new Question("rightAt " + number + " " + n, x -> x.rightAt(number, n)));
            }
            for (int i = 0; i <= 16; i++) {
                int number = i;
                all.add(new Question("caseAt " + number + " " + n, x -> x.caseAt(number, n)));
            }
        }
    }

    /** What can't be asked shows in what is done later: maps, uses, evidence. */
    private static List<Question> laterCases() {
        List<Question> all = new ArrayList<>();
        for (int i = 0; i < 12; i++) {
            int person = i;
            all.add(new Question("use " + person, x -> x.use(person, 80 + person, 80 + person)));
            all.add(new Question("file by use " + person, x -> x.file(person, true, 0, 79)));
            all.add(new Question("file by maps " + person, x -> x.file(person, false, 0, 99)));
        }
        all.add(new Question("survey", x -> x.survey(8, 0, 0)));
        for (int i = 0; i < 16; i++) {
            int number = i;
            all.add(new Question("squares " + number, x -> x.caseAt(number, 2)));
            all.add(new Question("for " + number, x -> x.evidence(number, true, 2)));
            all.add(new Question("against " + number, x -> x.evidence(number, false, 1)));
            all.add(new Question("decide " + number, x -> x.decide(number)));
            all.add(new Question("given " + number, x -> x.caseAt(number, 3)));
            all.add(new Question("appeal " + number, x -> x.appeal(number)));
        }
        return all;
    }

    /** Where squares come back to as each case is REFUSED. */
    private static List<Question> laterRefusals() {
        List<Question> all = new ArrayList<>();
        for (int i = 0; i < 4; i++) {
            int number = i;
            all.add(new Question("appeal again " + number, x -> x.appeal(number)));
            all.add(new Question("lose " + number, x -> lose(x, number)));
            for (int s : new int[] {40, 41, 42, 43, 44, 45, 60}) {
                all.add(new Question("parcel of " + s + " after " + number, x -> x.parcelOf(s)));
            }
        }
        return all;
    }

    /** What a new case can take at the stage 0. */
    private static List<Question> laterRanks() {
        List<Question> all = new ArrayList<>();
        all.add(new Question("map of all", x -> x.survey(8, 0, 99)));
        all.add(new Question("take all", x -> win(x, x.file(8, false, 0, 99))));
        for (int s : new int[] {0, 40, 41, 42, 43, 44, 55, 60}) {
            all.add(new Question("owner of the parcel of " + s, x -> x.owner(x.parcelOf(s))));
        }
        return all;
    }

    /**
     * The wind, drains, days on which squares were burnt, sheep, and what the next years bring: from the
     * day 80 of a year on, each time rain 80 days ahead of the next one, and fire on the day 150 of that.
     */
    private static List<Question> laterDays() {
        List<Question> all = new ArrayList<>();
        all.add(new Question("wind", x -> x.wind(0)));
        for (int i = 0; i < 4; i++) {
            String year = " in year " + i;
            for (int s : new int[] {0, 11, 40, 50, 99}) {
                all.add(new Question("burn " + s + " by 0" + year, x -> x.burn(0, s)));
                all.add(new Question("burn " + s + " by 4" + year, x -> x.burn(4, s)));
            }
            int untilRain = i == 0 ? 200 : 130;
            all.add(new Question("pass" + year, x -> x.pass(untilRain)));
            all.add(new Question("rain" + year, x -> x.rain(60)));
            all.add(new Question("first" + year, x -> x.pass(1)));
            all.add(new Question("water of 61 first" + year, x -> x.square(61, 1)));
            all.add(new Question("water of 91 first" + year, x -> x.square(91, 1)));
            all.add(new Question("begin" + year, x -> x.pass(79)));
            for (int s : new int[] {0, 5, 11, 21, 40, 50, 99}) {
                all.add(new Question("peat of " + s + year, x -> x.square(s, 0)));
                all.add(new Question("water of " + s + year, x -> x.square(s, 1)));
            }
            for (int p = 0; p < 8; p++) {
                int person = p;
                all.add(new Question("paid " + person + year, x -> x.paid(person)));
            }
            all.add(new Question("dry" + year, x -> x.pass(150)));
        }
        return all;
    }

    /** Drains, heirs, and the next number of a right. */
    private static List<Question> laterDeaths() {
        List<Question> all = new ArrayList<>();
        all.add(new Question("register", x -> x.register(Peatland.CUT, 0, 8, 0)));
        all.add(new Question("fill", x -> x.fill(0)));
        for (int i = 0; i < 12; i++) {
            int person = i;
            all.add(new Question("name by " + person, x -> x.name(person, 10)));
            all.add(new Question("die " + person, x -> x.die(person)));
            for (int p = 0; p < 8; p++) {
                int parcel = p;
                all.add(new Question("owner of " + parcel + " after " + person, x -> x.owner(parcel)));
            }
        }
        return all;
    }

    /** All that can be asked, in parts, since each moor is used for 512 calls alone. */
    private static List<List<Question>> asked() {
        List<Question> all = new ArrayList<>();
        askSquares(all);
        askParcelsAndPersons(all);
        askNumbered(all);
        List<List<Question>> parts = new ArrayList<>();
        for (int i = 0; i < all.size(); i += CALLS_FOR_QUESTIONS) {
            parts.add(all.subList(i, Math.min(all.size(), i + CALLS_FOR_QUESTIONS)));
        }
        return parts;
    }

    private static List<String> changes(List<Question> part, Supplier<Peatland> scene, Consumer<Peatland> call) {
        List<String> found = new ArrayList<>();
        Peatland with = scene.get();
        Peatland without = scene.get();
        call.accept(with);
        for (Question each : part) {
            String before = each.outcome(without);
            String after = each.outcome(with);
            if (!after.equals(before)) {
                found.add(each.name + ": " + before + " > " + after);
            }
        }
        return found;
    }

    /** What the call changes of all that can be asked, each told as in: square 3 0: 50 > 45. */
    static List<String> changes(Supplier<Peatland> scene, Consumer<Peatland> call) {
        List<String> found = new ArrayList<>();
        for (List<Question> part : asked()) {
            found.addAll(changes(part, scene, call));
        }
        return found;
    }

    /** What it changes of what maps, uses and cases bring later. */
    static List<String> changesOfCases(Supplier<Peatland> scene, Consumer<Peatland> call) {
        List<String> found = changes(laterCases(), scene, call);
        found.addAll(changes(laterRefusals(), scene, call));
        found.addAll(changes(laterRanks(), scene, call));
        return found;
    }

    /** What it changes of what days bring later. */
    static List<String> changesOfDays(Supplier<Peatland> scene, Consumer<Peatland> call) {
        return changes(laterDays(), scene, call);
    }

    /** What it changes of what deaths bring later. */
    static List<String> changesOfDeaths(Supplier<Peatland> scene, Consumer<Peatland> call) {
        return changes(laterDeaths(), scene, call);
    }

    /** That the call changes nothing: all that is asked and done then is as without it. */
    static void unchanged(String what, Supplier<Peatland> scene, Consumer<Peatland> call) {
        List<String> found = changes(scene, call);
        found.addAll(changesOfCases(scene, call));
        found.addAll(changesOfDays(scene, call));
        found.addAll(changesOfDeaths(scene, call));
        Check.due(what + " changes " + found, found.size(), 0);
    }
}
