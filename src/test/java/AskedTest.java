/** The sentences of the promises 1 and 22 to 34 that name a boundary; each has a test. */
final class AskedTest {
    private static final int LEAST = Integer.MIN_VALUE;
    private static final int MOST = Integer.MAX_VALUE;

    private AskedTest() {
    }

    public static void main(String[] args) {
        allSquaresOfTheParcelZero();
        todayAtTheEdges();
        parcelsAtTheEdges();
        parcelOfAtTheEdges();
        parcelOfNone();
        chainBack();
        chainOfMerged();
        chainOfNone();
        areaAtTheEdges();
        areaOfNone();
        ownerAtTheEdges();
        ownerOfNone();
        disputedAtTheEdges();
        disputedOfNone();
        caseAtTheEdges();
        caseAtOfNone();
        rightAtTheEdges();
        rightThatHasEnded();
        rightAtOfNone();
        squareAtTheEdges();
        squareOfNone();
        waterAtTheEdges();
        waterOfNone();
        paidAtTheEdges();
        paidOfNone();
        sheepAtTheEdges();
        sheepOfNone();
        askingChangesNothing();
        Check.end("AskedTest");
    }

    // Promise 1: "All squares are of the parcel 0."
    private static void allSquaresOfTheParcelZero() {
        Peatland x = new Peatland();
        for (int s = 0; s < 100; s++) {
            Check.due("square " + s, x.parcelOf(s), 0);
        }
        Check.due("all", x.area(0), 100);
        Peatland y = new Peatland();
        x.grant(0, 0, 99, 3);
        Check.due("another moor stays", y.area(0), 100);
    }

    // Promise 22: "Returns today."
    private static void todayAtTheEdges() {
        Peatland x = new Peatland();
        Check.due("the first day", x.today(), 0);
        Scene.passDays(x, 20000);
        Check.due("the last day", x.today(), 20000);
    }

    // Promise 23: "Returns how many parcels there were, those that were merged too."
    private static void parcelsAtTheEdges() {
        Peatland x = new Peatland();
        Check.due("at first", x.parcels(), 1);
        for (int i = 1; i < 40; i++) {
            x.grant(0, i, i, 0);
        }
        Check.due("at most", x.parcels(), 40);
        x.merge(39, 1);
        x.merge(1, 2);
        Check.due("with those that were merged", x.parcels(), 40);
    }

    // Promise 24: "square: 0 to 99" "Returns its number."
    private static void parcelOfAtTheEdges() {
        Peatland x = new Peatland();
        x.grant(0, 0, 0, 0);
        x.grant(0, 99, 99, 0);
        Check.due("the first square", x.parcelOf(0), 1);
        Check.due("the last square", x.parcelOf(99), 2);
        Check.due("another one", x.parcelOf(50), 0);
        x.merge(2, 1);
        Check.due("merged", x.parcelOf(99), 1);
    }

    // Promise 24: "Throws IndexOutOfBoundsException if there is no such square"
    private static void parcelOfNone() {
        Peatland x = new Peatland();
        for (int bad : new int[] {-1, 100, LEAST, MOST}) {
            Check.outOfBounds("square " + bad, () -> x.parcelOf(bad));
        }
    }

    // Promise 25: "back: 0 for the one of now, 1 for the one ahead of that, and so on" "NONE if there were not so many"
    private static void chainBack() {
        Peatland x = new Peatland();
        Check.due("the one of now", x.chain(99, 0), 0);
        Check.due("none ahead", x.chain(99, 1), Peatland.NONE);
        for (int i = 1; i < 40; i++) {
            x.grant(x.parcelOf(99), 99, 99, 0);
        }
        for (int back = 0; back < 40; back++) {
            Check.due("back " + back, x.chain(99, back), 39 - back);
        }
        Check.due("not so many", x.chain(99, 40), Peatland.NONE);
        Check.due("far fewer", x.chain(99, MOST), Peatland.NONE);
        Check.due("another square", x.chain(98, 1), Peatland.NONE);
    }

    // Promise 25: "Returns the parcel, by the number that it had then, also one that was merged since"
    private static void chainOfMerged() {
        Peatland x = new Peatland();
        x.grant(0, 0, 0, 0);
        x.grant(0, 1, 1, 0);
        x.merge(1, 2);
        Check.due("now", x.chain(0, 0), 2);
        Check.due("the merged one", x.chain(0, 1), 1);
        Check.due("at first", x.chain(0, 2), 0);
        Check.due("no more", x.chain(0, 3), Peatland.NONE);
        Check.due("the other square was not merged", x.chain(1, 1), 0);
        Check.due("and no more", x.chain(1, 2), Peatland.NONE);
    }

    // Promise 25: "square: 0 to 99" "Throws IndexOutOfBoundsException if there is no such square, or back is below 0"
    private static void chainOfNone() {
        Peatland x = new Peatland();
        for (int bad : new int[] {-1, 100, LEAST, MOST}) {
            Check.outOfBounds("square " + bad, () -> x.chain(bad, 0));
        }
        Check.outOfBounds("back -1", () -> x.chain(0, -1));
        Check.outOfBounds("back far below", () -> x.chain(0, LEAST));
        Check.outOfBounds("both", () -> x.chain(100, -1));
        Check.due("the first square", x.chain(0, 0), 0);
        Check.due("the last square", x.chain(99, 0), 0);
    }

    // Promise 26: "Returns how many squares a parcel has."
    private static void areaAtTheEdges() {
        Peatland x = new Peatland();
        Check.due("all", x.area(0), 100);
        x.grant(0, 0, 0, 0);
        Check.due("one", x.area(1), 1);
        Check.due("all but one", x.area(0), 99);
        x.grant(1, 0, 0, 0);
        Check.due("none", x.area(1), 0);
        x.merge(1, 2);
        Check.due("a merged one", x.area(1), 1);
    }

    // Promise 26: "Throws IndexOutOfBoundsException if there is no such parcel"
    private static void areaOfNone() {
        Peatland x = new Peatland();
        for (int bad : new int[] {-1, 1, 40, LEAST, MOST}) {
            Check.outOfBounds("parcel " + bad, () -> x.area(bad));
        }
        Peatland y = Scene.fortyParcels();
        Check.due("the last parcel", y.area(39), 1);
        Check.outOfBounds("behind it", () -> y.area(40));
    }

    // Promise 27: "Returns the person; NONE for the state."
    private static void ownerAtTheEdges() {
        Peatland x = new Peatland();
        x.grant(0, 0, 0, 0);
        x.grant(0, 1, 1, 11);
        Check.due("the state", x.owner(0), Peatland.NONE);
        Check.due("the first person", x.owner(1), 0);
        Check.due("the last person", x.owner(2), 11);
        x.die(11);
        Check.due("the state again", x.owner(2), Peatland.NONE);
    }

    // Promise 27: "Throws IndexOutOfBoundsException if there is no such parcel"
    private static void ownerOfNone() {
        Peatland x = new Peatland();
        for (int bad : new int[] {-1, 1, 40, LEAST, MOST}) {
            Check.outOfBounds("parcel " + bad, () -> x.owner(bad));
        }
        Peatland y = Scene.fortyParcels();
        Check.due("the last parcel", y.owner(39), 3);
        Check.outOfBounds("behind it", () -> y.owner(40));
    }

    // Promise 28: "square: 0 to 99" "Returns how many persons a square belongs to, by maps."
    private static void disputedAtTheEdges() {
        Peatland x = new Peatland();
        Check.due("nobody", x.disputed(0), 0);
        for (int p = 0; p < 12; p++) {
            x.survey(p, 0, 99);
            Check.due("persons up to " + p, x.disputed(0), p + 1);
        }
        Check.due("all, the last square", x.disputed(99), 12);
        Check.due("maps of one person count once", Scene.twelveMaps().disputed(0), 1);
    }

    // Promise 28: "Throws IndexOutOfBoundsException if there is no such square"
    private static void disputedOfNone() {
        Peatland x = new Peatland();
        x.survey(3, 0, 99);
        for (int bad : new int[] {-1, 100, LEAST, MOST}) {
            Check.outOfBounds("square " + bad, () -> x.disputed(bad));
        }
    }

    // Promise 29: "what: 0 whether it is OPEN, GRANTED or REFUSED, 1 its stage, 2 how many squares it has, 3 how many squares are given by it"
    private static void caseAtTheEdges() {
        Peatland x = new Peatland();
        x.grant(0, 0, 0, 3);
        Scene.mapped(x, 3, 0, 1);
        told(x, Peatland.OPEN, 0, 2, 0);
        Scene.win(x, 0);
        told(x, Peatland.GRANTED, 0, 2, 1);
        x.appeal(0);
        told(x, Peatland.OPEN, 1, 2, 1);
        Scene.lose(x, 0);
        told(x, Peatland.REFUSED, 1, 2, 0);
        x.appeal(0);
        told(x, Peatland.OPEN, 2, 2, 0);
    }

    private static void told(Peatland x, int state, int stage, int has, int gives) {
        Check.due("what it is", x.caseAt(0, 0), state);
        Check.due("its stage", x.caseAt(0, 1), stage);
        Check.due("how many squares it has", x.caseAt(0, 2), has);
        Check.due("how many are given by it", x.caseAt(0, 3), gives);
    }

    // Promise 29: "Throws IndexOutOfBoundsException if there is no such case, or what is out of range"
    private static void caseAtOfNone() {
        Peatland none = new Peatland();
        Check.outOfBounds("none yet", () -> none.caseAt(0, 0));
        Peatland x = Scene.sixteenCases();
        for (int bad : new int[] {-1, 16, LEAST, MOST}) {
            Check.outOfBounds("case " + bad, () -> x.caseAt(bad, 0));
        }
        for (int bad : new int[] {-1, 4, LEAST, MOST}) {
            Check.outOfBounds("what " + bad, () -> x.caseAt(0, bad));
        }
        Check.due("the last one", x.caseAt(15, 2), 1);
    }

    // Promise 30: "what: 0 its kind, 1 its parcel, 2 its person, 3 what it is worth for GRAZE, 0 for others, 4 the right from which it comes, NONE if it was registered"
    private static void rightAtTheEdges() {
        Peatland x = new Peatland();
        x.register(Peatland.GRAZE, 0, 11, 99);
        x.register(Peatland.BURN, 0, 0, 99);
        x.grant(0, 0, 0, 5);
        int[][] due = {{0, 0, 11, 99, -1}, {2, 0, 0, 0, -1}, {0, 1, 11, 2, 0}, {2, 1, 0, 0, 1}};
        for (int right = 0; right < 4; right++) {
            for (int what = 0; what < 5; what++) {
                Check.due("right " + right + ", what " + what, x.rightAt(right, what), due[right][what]);
            }
        }
    }

    // Promise 30: "Returns as told; NONE for one that has ended."
    private static void rightThatHasEnded() {
        Peatland x = new Peatland();
        x.grant(0, 0, 0, 5);
        x.grant(0, 1, 1, 5);
        for (int p = 0; p < 3; p++) {
            x.register(Peatland.GRAZE, 1, p, 2);
        }
        x.release(0);
        x.die(1);
        x.merge(1, 2);
        for (int what = 0; what < 5; what++) {
            Check.due("released, what " + what, x.rightAt(0, what), Peatland.NONE);
            Check.due("of a dead person, what " + what, x.rightAt(1, what), Peatland.NONE);
            Check.due("of a merged parcel, what " + what, x.rightAt(2, what), Peatland.NONE);
        }
        Check.due("the one that came comes from an ended one", x.rightAt(3, 4), 2);
    }

    // Promise 30: "Throws IndexOutOfBoundsException if there was no such right, or what is out of range"
    private static void rightAtOfNone() {
        Peatland x = new Peatland();
        Check.outOfBounds("none yet", () -> x.rightAt(0, 0));
        x.register(Peatland.CUT, 0, 0, 0);
        x.register(Peatland.BURN, 0, 0, 0);
        x.release(1);
        for (int bad : new int[] {-1, 2, 80, LEAST, MOST}) {
            Check.outOfBounds("right " + bad, () -> x.rightAt(bad, 0));
        }
        for (int bad : new int[] {-1, 5, LEAST, MOST}) {
            Check.outOfBounds("what " + bad, () -> x.rightAt(0, bad));
            Check.outOfBounds("what " + bad + " of one that has ended", () -> x.rightAt(1, bad));
        }
    }

    // Promise 31: "square: 0 to 99" "what: 0 its peat, 1 its water, 2 its birds, 3 who uses it, NONE for nobody"
    private static void squareAtTheEdges() {
        Peatland x = new Peatland();
        x.grant(0, 99, 99, 0);
        x.cut(0, 99, 7);
        x.use(0, 99, 99);
        x.rain(21);
        int[] first = {50, 61, 4, -1};
        int[] last = {43, 61, 4, 0};
        for (int what = 0; what < 4; what++) {
            Check.due("the first square, what " + what, x.square(0, what), first[what]);
            Check.due("the last square, what " + what, x.square(99, what), last[what]);
        }
    }

    // Promise 31: "Throws IndexOutOfBoundsException if there is no such square, or what is out of range"
    private static void squareOfNone() {
        Peatland x = new Peatland();
        for (int bad : new int[] {-1, 100, LEAST, MOST}) {
            Check.outOfBounds("square " + bad, () -> x.square(bad, 0));
        }
        for (int bad : new int[] {-1, 4, LEAST, MOST}) {
            Check.outOfBounds("what " + bad, () -> x.square(0, bad));
        }
    }

    // Promise 32: "what: 0 in all squares, 1 that rained, 2 that ran off, 3 that dried" "Returns the sum."
    private static void waterAtTheEdges() {
        Peatland x = new Peatland();
        waters(x, 4000, 0, 0, 0);
        x.rain(60);
        waters(x, 10000, 6000, 0, 0);
        x.rain(2);
        waters(x, 10000, 6200, 200, 0);
        Scene.passDays(x, 120);
        waters(x, 9900, 6200, 200, 100);
        Scene.passDays(x, 119);
        waters(x, 0, 6200, 200, 10000);
    }

    private static void waters(Peatland x, int all, int rained, int ranOff, int dried) {
        Check.due("in all squares", x.water(0), all);
        Check.due("rained", x.water(1), rained);
        Check.due("ran off", x.water(2), ranOff);
        Check.due("dried", x.water(3), dried);
    }

    // Promise 32: "Throws IndexOutOfBoundsException if what is out of range"
    private static void waterOfNone() {
        Peatland x = new Peatland();
        for (int bad : new int[] {-1, 4, LEAST, MOST}) {
            Check.outOfBounds("what " + bad, () -> x.water(bad));
        }
    }

    // Promise 33: "person: 0 to 11" "Returns the sum."
    private static void paidAtTheEdges() {
        Peatland x = new Peatland();
        x.grant(0, 0, 0, 0);
        x.grant(0, 99, 99, 11);
        for (int year = 1; year <= 3; year++) {
            Scene.passDays(x, 359);
            x.rain(60);
            x.pass(1);
            Check.due("the first person", x.paid(0), 6 * year);
            Check.due("the last person", x.paid(11), 6 * year);
        }
        Check.due("another person", x.paid(5), 0);
    }

    // Promise 33: "Throws IndexOutOfBoundsException if there is no such person"
    private static void paidOfNone() {
        Peatland x = new Peatland();
        for (int bad : new int[] {-1, 12, LEAST, MOST}) {
            Check.outOfBounds("person " + bad, () -> x.paid(bad));
        }
        x.die(0);
        Check.due("a dead one", x.paid(0), 0);
    }

    // Promise 34: "person: 0 to 11" "Returns how many."
    private static void sheepAtTheEdges() {
        Peatland x = new Peatland();
        x.grant(0, 0, 0, 5);
        x.register(Peatland.GRAZE, 1, 0, 1);
        x.register(Peatland.GRAZE, 1, 11, 1);
        x.register(Peatland.GRAZE, 0, 11, 99);
        Check.due("none", x.sheep(0, 1), 0);
        x.graze(0, 1, 1);
        x.graze(11, 1, 1);
        x.graze(11, 0, 99);
        Check.due("of the first person", x.sheep(0, 1), 1);
        Check.due("of the last person", x.sheep(11, 1), 1);
        Check.due("on the first parcel", x.sheep(11, 0), 99);
        Check.due("of another person", x.sheep(5, 1), 0);
    }

    // Promise 34: "Throws IndexOutOfBoundsException if there is no such person or parcel"
    private static void sheepOfNone() {
        Peatland x = new Peatland();
        for (int bad : new int[] {-1, 12, LEAST, MOST}) {
            Check.outOfBounds("person " + bad, () -> x.sheep(bad, 0));
        }
        for (int bad : new int[] {-1, 1, 40, LEAST, MOST}) {
            Check.outOfBounds("parcel " + bad, () -> x.sheep(0, bad));
        }
    }

    // Terms, promises 22 to 34: "parcels, chains, shares, waters, birds and accounts are asked, which changes nothing"
    private static void askingChangesNothing() {
        Scene.unchanged("asking squares", Scene::busy, x -> {
            for (int s = 0; s < 100; s += 9) {
                x.parcelOf(s);
                x.chain(s, s % 4);
                x.disputed(s);
                x.square(s, s % 4);
            }
        });
        Scene.unchanged("asking others", Scene::busy, x -> {
            x.today();
            for (int p = 0; p < x.parcels(); p++) {
                x.area(p);
                x.owner(p);
                x.sheep(p, p);
                x.paid(p);
                x.caseAt(p % 4, p % 4);
                x.rightAt(p % 3, p % 5);
                x.water(p % 4);
            }
        });
    }
}
