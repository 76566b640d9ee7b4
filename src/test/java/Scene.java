import java.util.ArrayList;
import java.util.List;
import java.util.function.Consumer;
import java.util.function.Supplier;
import java.util.function.ToIntFunction;

/** Moors that several tests begin with, and what compares two of them within the 512 calls of each. */
final class Scene {
    private static final int CALLS_FOR_QUESTIONS = 250;

    private Scene() {
    }

    static void passDays(Peatland x, int days) {
        for (int left = days; left > 0; left -= 200) {
            x.pass(Math.min(left, 200));
        }
    }

    /** A case of the person for the field, by a map that tells it. */
    static int mapped(Peatland x, int person, int from, int to) {
        x.survey(person, from, to);
        return x.file(person, false, from, to);
    }

    /** Decides for it, whatever the evidence was. */
    static int win(Peatland x, int number) {
        int against = x.evidence(number, false, 1);
        while (x.evidence(number, true, 9) <= against) {
            continue;
        }
        return x.decide(number);
    }

    /** Decides against it, whatever the evidence was. */
    static int lose(Peatland x, int number) {
        int told = x.evidence(number, true, 1);
        while (x.evidence(number, false, 9) < told) {
            continue;
        }
        return x.decide(number);
    }

    /** 40 parcels; the squares 1 to 39 are of those with their numbers, of the persons 0 to 11 in turns. */
    static Peatland fortyParcels() {
        Peatland x = new Peatland();
        for (int i = 1; i < 40; i++) {
            x.grant(0, i, i, i % 12);
        }
        return x;
    }

    /** So many rights that have not ended, at most 36, on the parcel. */
    static void addRights(Peatland x, int parcel, int count) {
        for (int i = 0; i < count; i++) {
            x.register(i / 12, parcel, i % 12, 1);
        }
    }

    /** So many rights that have ended. */
    static void addEndedRights(Peatland x, int count) {
        for (int i = 0; i < count; i++) {
            x.release(x.register(Peatland.CUT, 0, 11, 0));
        }
    }

    /** 12 maps of the person 3, of the square 0 each. */
    static Peatland twelveMaps() {
        Peatland x = new Peatland();
        for (int i = 0; i < 12; i++) {
            x.survey(3, 0, 0);
        }
        return x;
    }

    /** 16 cases of the person 3, for the square 0 each. */
    static Peatland sixteenCases() {
        Peatland x = new Peatland();
        x.survey(3, 0, 99);
        for (int i = 0; i < 16; i++) {
            x.file(3, false, 0, 0);
        }
        return x;
    }

    /** 20 drains, from the squares 0 to 19 down. */
    static Peatland twentyDrains() {
        Peatland x = new Peatland();
        for (int i = 0; i < 20; i++) {
            x.dig(i, i + 10);
        }
        return x;
    }

    /** Only the squares told are wet: each takes water from the one told with it. */
    static Peatland wetOnly(int... froms) {
        Peatland x = new Peatland();
        for (int i = 0; i + 1 < froms.length; i += 2) {
            x.dig(froms[i], froms[i + 1]);
        }
        x.pass(3);
        return x;
    }

    /**
     * Day 800 (80 of its year) with some of everything: merged and empty parcels, rights that ended,
     * too many sheep, cases of all kinds, burnt squares, wet ones, heirs and dead persons.
     */
    static Peatland busy() {
        Peatland x = new Peatland();
        x.grant(0, 0, 33, 0);
        x.grant(0, 4, 37, 1);
        x.grant(1, 0, 11, 0);
        x.register(Peatland.GRAZE, 1, 2, 10);
        x.register(Peatland.GRAZE, 3, 2, 3);
        x.register(Peatland.CUT, 2, 3, 0);
        x.register(Peatland.BURN, 0, 4, 0);
        x.register(Peatland.GRAZE, 2, 3, 50);
        x.graze(2, 1, 10);
        x.graze(2, 3, 3);
        x.graze(3, 2, 32);
        x.use(5, 60, 72);
        x.survey(5, 40, 55);
        x.survey(6, 44, 66);
        x.name(0, 1);
        x.name(0, 2);
        x.dig(90, 91);
        x.dig(91, 92);
        passDays(x, 700);
        x.rain(20);
        x.pass(100);
        x.burn(0, 0);
        x.burn(4, 99);
        x.rain(45);
        casesOfBusy(x);
        x.merge(3, 1);
        x.grant(2, 37, 37, 8);
        x.release(3);
        x.name(8, 9);
        x.die(9);
        x.wind(5);
        return x;
    }

    /** 0 by use and granted, 1 open at the stage 1, 2 granted at the stage 1 from it too, 3 refused. */
    private static void casesOfBusy(Peatland x) {
        x.file(5, true, 60, 72);
        x.file(5, false, 40, 55);
        x.file(6, false, 44, 66);
        x.file(6, false, 44, 44);
        win(x, 0);
        win(x, 1);
        x.appeal(1);
        lose(x, 2);
        x.appeal(2);
        win(x, 2);
        lose(x, 3);
    }

    private static void askSquares(List<ToIntFunction<Peatland>> all) {
        for (int i = 0; i < 100; i++) {
            int s = i;
            all.add(x -> x.parcelOf(s));
            all.add(x -> x.disputed(s));
            for (int j = 0; j < 4; j++) {
                int n = j;
                all.add(x -> x.chain(s, n));
                all.add(x -> x.square(s, n));
            }
        }
    }

    private static void askParcelsAndPersons(List<ToIntFunction<Peatland>> all) {
        for (int i = 0; i <= 40; i++) {
            int p = i;
            all.add(x -> x.area(p));
            all.add(x -> x.owner(p));
            for (int j = 0; j < 12; j++) {
                int person = j;
                all.add(x -> x.sheep(person, p));
            }
        }
        for (int j = 0; j < 12; j++) {
            int person = j;
            all.add(x -> x.paid(person));
        }
    }

    private static void askNumbered(List<ToIntFunction<Peatland>> all) {
        all.add(Peatland::today);
        all.add(Peatland::parcels);
        for (int j = 0; j < 5; j++) {
            int n = j;
            all.add(x -> x.water(n));
            for (int i = 0; i <= 80; i++) {
                int number = i;
                all.add(x -> x.rightAt(number, n));
            }
            for (int i = 0; i <= 16; i++) {
                int number = i;
                all.add(x -> x.caseAt(number, n));
            }
        }
    }

    /** What can't be asked shows in what is done later: the wind, evidence, maps, drains, heirs, days. */
    private static void doAll(List<ToIntFunction<Peatland>> all) {
        for (int i = 0; i < 12; i++) {
            int person = i;
            all.add(x -> x.name(person, 10));
            all.add(x -> x.use(person, 80 + person, 80 + person));
            all.add(x -> x.file(person, true, 0, 79));
            all.add(x -> x.file(person, false, 0, 99));
        }
        all.add(x -> x.wind(0));
        all.add(x -> x.survey(8, 0, 0));
        all.add(x -> x.register(Peatland.CUT, 0, 8, 0));
        all.add(x -> x.grant(0, 0, 99, 11));
        for (int i = 0; i < 16; i++) {
            int number = i;
            all.add(x -> x.evidence(number, true, 2));
            all.add(x -> x.evidence(number, false, 1));
            all.add(x -> x.decide(number));
            all.add(x -> x.appeal(number));
        }
        for (int s = 0; s < 2; s++) {
            int square = s;
            all.add(x -> x.burn(0, 99 * square));
            all.add(x -> x.pass(200));
            all.add(x -> x.square(91, 1));
            all.add(x -> x.fill(1));
            all.add(x -> x.paid(1));
        }
        all.add(x -> x.die(0));
        all.add(x -> x.owner(1));
        all.add(x -> x.area(0));
    }

    private static List<List<ToIntFunction<Peatland>>> questions() {
        List<ToIntFunction<Peatland>> all = new ArrayList<>();
        askSquares(all);
        askParcelsAndPersons(all);
        askNumbered(all);
        List<List<ToIntFunction<Peatland>>> parts = new ArrayList<>();
        for (int i = 0; i < all.size(); i += CALLS_FOR_QUESTIONS) {
            parts.add(all.subList(i, Math.min(all.size(), i + CALLS_FOR_QUESTIONS)));
        }
        List<ToIntFunction<Peatland>> later = new ArrayList<>();
        doAll(later);
        parts.add(later);
        return parts;
    }

    /** That the call changes nothing: all that is asked and done then is as without it. */
    static void unchanged(String what, Supplier<Peatland> scene, Consumer<Peatland> call) {
        int part = 0;
        for (List<ToIntFunction<Peatland>> each : questions()) {
            Peatland with = scene.get();
            Peatland without = scene.get();
            call.accept(with);
            for (int i = 0; i < each.size(); i++) {
                long due = outcome(each.get(i), without);
                Check.due(what + " changes part " + part + ", question " + i, outcome(each.get(i), with), due);
            }
            part++;
        }
    }

    private static long outcome(ToIntFunction<Peatland> question, Peatland x) {
        try {
            return question.applyAsInt(x);
        } catch (IndexOutOfBoundsException e) {
            return -10;
        } catch (IllegalArgumentException e) {
            return -20;
        } catch (IllegalStateException e) {
            return -30;
        }
    }
}
