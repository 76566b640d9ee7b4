/** The sentences of the promises 13 to 21 that name a boundary; each has a test. */
final class CallsNatureTest {
    private static final int LEAST = Integer.MIN_VALUE;
    private static final int MOST = Integer.MAX_VALUE;

    private CallsNatureTest() {
    }

    public static void main(String[] args) {
        rainAtTheEdges();
        rainThatRunsOff();
        rainOutOfRange();
        digAtTheEdges();
        digOfNone();
        digWithoutSide();
        digTwice();
        digWithTwenty();
        fillMovesTheOthers();
        fillAtTheEdges();
        fillOfNone();
        cutAtTheEdges();
        cutOfNone();
        cutOutOfRange();
        cutOfTheDead();
        cutThatMayNot();
        cutOfMoreThanThereIs();
        windAtTheEdges();
        windOutOfRange();
        burnAtTheEdges();
        burnOfNone();
        burnOfTheDead();
        burnThatMayNot();
        burnThatCannot();
        passAtTheEdges();
        passOutOfRange();
        passAbove20000();
        nameAtTheEdges();
        nameOfNone();
        nameOfTheDead();
        nameOfItself();
        nameTwice();
        nameOfFour();
        dieAtTheEdges();
        dieOfNone();
        dieTwice();
        Check.end("CallsNatureTest");
    }

    /** On the day 140, when the water of each square is 19; all but the square 0 is the person 0's. */
    private static Peatland fireTime() {
        Peatland x = new Peatland();
        x.grant(0, 1, 99, 0);
        x.grant(0, 10, 90, 0);
        Scene.passDays(x, 140);
        return x;
    }

    // Promise 13: "amount: 1 to 60"
    private static void rainAtTheEdges() {
        Peatland x = new Peatland();
        Check.due("the least", x.rain(1), 0);
        Check.due("water", x.square(0, 1), 41);
        Peatland y = new Peatland();
        Check.due("the most, up to 100", y.rain(60), 0);
        Check.due("water", y.square(99, 1), 100);
        Check.due("rained", y.water(1), 6000);
    }

    // Promise 13: "Returns how much runs off."
    private static void rainThatRunsOff() {
        Peatland x = new Peatland();
        x.rain(59);
        Check.due("nothing up to 100", x.rain(1), 0);
        Check.due("the least above", x.rain(1), 100);
        Check.due("the most above", x.rain(60), 6000);
        Check.due("in all", x.water(2), 6100);
        Check.due("rained, with what ran off", x.water(1), 12100);
    }

    // Promise 13: "Throws IllegalArgumentException if amount is out of range"
    private static void rainOutOfRange() {
        Peatland x = new Peatland();
        for (int bad : new int[] {0, 61, -1, LEAST, MOST}) {
            Check.badArgument("amount " + bad, () -> x.rain(bad));
        }
        Check.due("no water", x.water(0), 4000);
        Check.due("nothing rained", x.water(1), 0);
    }

    // Promise 14: "from: 0 to 99" "to: 0 to 99, which shares a side with it" "Returns how many drains there are then."
    private static void digAtTheEdges() {
        Peatland x = new Peatland();
        Check.due("from the first square", x.dig(0, 1), 1);
        Check.due("to the first square", x.dig(10, 0), 2);
        Check.due("from the last square", x.dig(99, 89), 3);
        Check.due("to the last square", x.dig(98, 99), 4);
        x.fill(0);
        Check.due("how many there are then", x.dig(9, 8), 4);
    }

    // Promise 14: "Throws IndexOutOfBoundsException if there is no such square"
    private static void digOfNone() {
        Peatland x = new Peatland();
        for (int bad : new int[] {-1, 100, LEAST, MOST}) {
            Check.outOfBounds("from " + bad, () -> x.dig(bad, 0));
            Check.outOfBounds("to " + bad, () -> x.dig(0, bad));
        }
        Check.outOfBounds("below the last row", () -> x.dig(99, 109));
        Check.outOfBounds("above the first row", () -> x.dig(0, -10));
        Check.due("none was dug", x.dig(0, 1), 1);
    }

    // Promise 14: "Throws IllegalArgumentException if both share no side"
    private static void digWithoutSide() {
        Peatland x = new Peatland();
        Check.badArgument("the same", () -> x.dig(0, 0));
        Check.badArgument("a corner", () -> x.dig(0, 11));
        Check.badArgument("two columns", () -> x.dig(0, 2));
        Check.badArgument("two rows", () -> x.dig(0, 20));
        Check.badArgument("nine columns down, a row up", () -> x.dig(9, 10));
        Check.badArgument("eleven less", () -> x.dig(99, 88));
        Check.due("none was dug", x.dig(0, 1), 1);
    }

    // Promise 14: "Throws IllegalStateException if there is such a drain"
    private static void digTwice() {
        Peatland x = new Peatland();
        x.dig(0, 1);
        Check.badState("the same", () -> x.dig(0, 1));
        Check.due("the other way", x.dig(1, 0), 2);
        Check.due("from the same", x.dig(0, 10), 3);
        Check.due("to the same", x.dig(2, 1), 4);
        x.fill(0);
        Check.due("one that was filled", x.dig(0, 1), 4);
    }

    // Promise 14: "or there are 20"
    private static void digWithTwenty() {
        Peatland x = Scene.twentyDrains();
        Check.badState("with 20", () -> x.dig(99, 98));
        x.fill(19);
        Check.due("with 19", x.dig(99, 98), 20);
        Check.badState("with 20 again", () -> x.dig(98, 99));
    }

    // Promise 15: "Fills a drain; those behind it are 1 less."
    private static void fillMovesTheOthers() {
        Peatland x = new Peatland();
        x.dig(0, 1);
        x.dig(50, 51);
        x.dig(70, 71);
        x.fill(0);
        x.fill(1);
        x.pass(1);
        Check.due("the first was filled", x.square(0, 1), 40);
        Check.due("the second one runs", x.square(50, 1), 30);
        Check.due("the third was filled", x.square(70, 1), 40);
    }

    // Promise 15: "drain: its place, from 0" "Returns how many there are then."
    private static void fillAtTheEdges() {
        Peatland x = Scene.twentyDrains();
        Check.due("the last one", x.fill(19), 19);
        Check.due("the first one", x.fill(0), 18);
        x.pass(1);
        Check.due("the first was filled", x.square(0, 1), 40);
        Check.due("the last was filled", x.square(29, 1), 40);
        Check.due("the one ahead of it runs", x.square(28, 1), 52);
        for (int left = 17; left >= 0; left--) {
            Check.due("all of them", x.fill(left), left);
        }
    }

    // Promise 15: "Throws IndexOutOfBoundsException if there is no such drain"
    private static void fillOfNone() {
        Peatland x = new Peatland();
        Check.outOfBounds("none yet", () -> x.fill(0));
        x.dig(0, 1);
        for (int bad : new int[] {-1, 1, 20, LEAST, MOST}) {
            Check.outOfBounds("drain " + bad, () -> x.fill(bad));
        }
        Check.due("the only one", x.fill(0), 0);
        Check.outOfBounds("none any more", () -> x.fill(0));
    }

    // Promise 16: "person: 0 to 11" "square: 0 to 99" "amount: 1 to 20" "Returns what is left of it there."
    private static void cutAtTheEdges() {
        Peatland x = new Peatland();
        x.grant(0, 0, 0, 0);
        x.grant(0, 99, 99, 11);
        Check.due("the least, the first ones", x.cut(0, 0, 1), 49);
        Check.due("the most, the last ones", x.cut(11, 99, 20), 30);
        Check.due("as told", x.square(99, 0), 30);
        Check.due("others stay", x.square(98, 0), 50);
    }

    // Promise 16: "Throws IndexOutOfBoundsException if there is no such person or square"
    private static void cutOfNone() {
        Peatland x = fireTime();
        for (int bad : new int[] {-1, 12, LEAST, MOST}) {
            Check.outOfBounds("person " + bad, () -> x.cut(bad, 1, 1));
        }
        for (int bad : new int[] {-1, 100, LEAST, MOST}) {
            Check.outOfBounds("square " + bad, () -> x.cut(0, bad, 1));
        }
    }

    // Promise 16: "Throws IllegalArgumentException if amount is out of range"
    private static void cutOutOfRange() {
        Peatland x = fireTime();
        for (int bad : new int[] {0, 21, -1, LEAST, MOST}) {
            Check.badArgument("amount " + bad, () -> x.cut(0, 1, bad));
        }
        Check.due("nothing was cut", x.square(1, 0), 50);
    }

    // Promise 16: "Throws IllegalStateException if the person is dead"
    private static void cutOfTheDead() {
        Peatland x = fireTime();
        x.register(Peatland.CUT, 1, 4, 0);
        x.die(4);
        Check.badState("who had a right", () -> x.cut(4, 1, 1));
        x.die(0);
        Check.badState("who was the owner", () -> x.cut(0, 1, 1));
        Check.due("nothing was cut", x.square(1, 0), 50);
    }

    // Promise 16: "or may not"
    private static void cutThatMayNot() {
        Peatland x = fireTime();
        x.register(Peatland.CUT, 0, 4, 0);
        Check.badState("of the state", () -> x.cut(0, 0, 1));
        Check.badState("of another person", () -> x.cut(4, 1, 1));
        Check.due("with the right", x.cut(4, 0, 1), 49);
        Check.due("as the owner", x.cut(0, 1, 1), 49);
    }

    // Promise 16: "or there is less"
    private static void cutOfMoreThanThereIs() {
        Peatland x = fireTime();
        x.cut(0, 1, 20);
        x.cut(0, 1, 20);
        Check.badState("11 of 10", () -> x.cut(0, 1, 11));
        Check.due("10 of 10", x.cut(0, 1, 10), 0);
        Check.badState("1 of 0", () -> x.cut(0, 1, 1));
        Check.due("none is left", x.square(1, 0), 0);
    }

    // Promise 17: "wind: 0 to 9" "Returns what it was."
    private static void windAtTheEdges() {
        Peatland x = new Peatland();
        Check.due("0 at first", x.wind(9), 0);
        Check.due("the most", x.wind(9), 9);
        Check.due("the same", x.wind(0), 9);
        Check.due("the least", x.wind(1), 0);
    }

    // Promise 17: "Throws IllegalArgumentException if wind is out of range"
    private static void windOutOfRange() {
        Peatland x = new Peatland();
        x.wind(7);
        for (int bad : new int[] {-1, 10, LEAST, MOST}) {
            Check.badArgument("wind " + bad, () -> x.wind(bad));
        }
        Check.due("it stays", x.wind(0), 7);
    }

    // Promise 18: "person: 0 to 11" "square: 0 to 99" "Returns what is left of its peat."
    private static void burnAtTheEdges() {
        Peatland x = new Peatland();
        x.grant(0, 0, 0, 0);
        x.grant(0, 99, 99, 11);
        Scene.passDays(x, 140);
        Check.due("the first ones", x.burn(0, 0), 45);
        Check.due("the last ones", x.burn(11, 99), 45);
        Check.due("as told", x.square(99, 0), 45);
        Check.due("others stay", x.square(98, 0), 50);
    }

    // Promise 18: "Throws IndexOutOfBoundsException if there is no such person or square"
    private static void burnOfNone() {
        Peatland x = fireTime();
        for (int bad : new int[] {-1, 12, LEAST, MOST}) {
            Check.outOfBounds("person " + bad, () -> x.burn(bad, 1));
        }
        for (int bad : new int[] {-1, 100, LEAST, MOST}) {
            Check.outOfBounds("square " + bad, () -> x.burn(0, bad));
        }
    }

    // Promise 18: "Throws IllegalStateException if the person is dead"
    private static void burnOfTheDead() {
        Peatland x = fireTime();
        x.register(Peatland.BURN, 1, 4, 0);
        x.die(4);
        Check.badState("who had a right", () -> x.burn(4, 1));
        x.die(0);
        Check.badState("who was the owner", () -> x.burn(0, 1));
        Check.due("nothing was burnt", x.square(1, 0), 50);
    }

    // Promise 18: "or may not"
    private static void burnThatMayNot() {
        Peatland x = fireTime();
        x.register(Peatland.BURN, 0, 4, 0);
        Check.badState("of the state", () -> x.burn(0, 0));
        Check.badState("of another person", () -> x.burn(4, 1));
        Check.due("with the right", x.burn(4, 0), 45);
        Check.due("as the owner", x.burn(0, 1), 45);
    }

    // Promise 18: "or it cannot be burnt"
    private static void burnThatCannot() {
        Peatland x = fireTime();
        x.wind(4);
        Check.badState("the wind", () -> x.burn(0, 1));
        x.wind(0);
        x.rain(12);
        Check.badState("the water", () -> x.burn(0, 1));
        x.pass(1);
        Check.due("it can", x.burn(0, 1), 45);
        Check.badState("burnt today", () -> x.burn(0, 1));
        x.pass(10);
        Check.badState("the day 151", () -> x.burn(0, 2));
        Check.due("nothing was burnt", x.square(2, 0), 50);
    }

    // Promise 19: "days: 1 to 200" "Returns today."
    private static void passAtTheEdges() {
        Peatland x = new Peatland();
        Check.due("the least", x.pass(1), 1);
        Check.due("the most", x.pass(200), 201);
        Check.due("today", x.today(), 201);
    }

    // Promise 19: "Throws IllegalArgumentException if days is out of range"
    private static void passOutOfRange() {
        Peatland x = new Peatland();
        for (int bad : new int[] {0, 201, -1, LEAST, MOST}) {
            Check.badArgument("days " + bad, () -> x.pass(bad));
        }
        Check.due("no day has passed", x.today(), 0);
    }

    // Promise 19: "Throws IllegalStateException if today would be above 20000"
    private static void passAbove20000() {
        Peatland x = new Peatland();
        Scene.passDays(x, 19850);
        Check.badState("20001", () -> x.pass(151));
        Check.badState("20050", () -> x.pass(200));
        Check.due("no day has passed", x.today(), 19850);
        Check.due("20000", x.pass(150), 20000);
        Check.badState("20001, by one day", () -> x.pass(1));
    }

    // Promise 20: "person: 0 to 11" "heir: 0 to 11" "Returns how many the person has named then."
    private static void nameAtTheEdges() {
        Peatland x = new Peatland();
        Check.due("the first and the last person", x.name(0, 11), 1);
        Check.due("the last and the first person", x.name(11, 0), 1);
        Check.due("two", x.name(0, 1), 2);
        x.die(11);
        Check.due("three, with a dead one", x.name(0, 2), 3);
    }

    // Promise 20: "Throws IndexOutOfBoundsException if there is no such person, of either"
    private static void nameOfNone() {
        Peatland x = new Peatland();
        for (int bad : new int[] {-1, 12, LEAST, MOST}) {
            Check.outOfBounds("person " + bad, () -> x.name(bad, 0));
            Check.outOfBounds("heir " + bad, () -> x.name(0, bad));
            Check.outOfBounds("both " + bad, () -> x.name(bad, bad));
        }
        Check.due("none was named", x.name(0, 1), 1);
    }

    // Promise 20: "Throws IllegalStateException if one of both is dead"
    private static void nameOfTheDead() {
        Peatland x = new Peatland();
        x.die(4);
        Check.badState("the heir", () -> x.name(0, 4));
        Check.badState("the person", () -> x.name(4, 0));
        Check.badState("both", () -> x.name(4, 4));
        Check.due("none was named", x.name(0, 1), 1);
    }

    // Promise 20: "both are the same"
    private static void nameOfItself() {
        Peatland x = new Peatland();
        for (int p = 0; p < 12; p++) {
            int person = p;
            Check.badState("itself " + p, () -> x.name(person, person));
        }
        Check.due("none was named", x.name(0, 1), 1);
    }

    // Promise 20: "the heir is named"
    private static void nameTwice() {
        Peatland x = new Peatland();
        x.name(0, 1);
        x.name(0, 2);
        Check.badState("the first one", () -> x.name(0, 1));
        Check.badState("the last one", () -> x.name(0, 2));
        Check.due("by another person", x.name(1, 2), 1);
        Check.due("each other", x.name(1, 0), 2);
        Check.due("none was named twice", x.name(0, 3), 3);
    }

    // Promise 20: "or there are 3"
    private static void nameOfFour() {
        Peatland x = new Peatland();
        x.name(0, 1);
        x.name(0, 2);
        x.name(0, 3);
        Check.badState("a fourth", () -> x.name(0, 4));
        x.grant(0, 0, 3, 0);
        for (int i = 0; i < 4; i++) {
            x.grant(1, i, i, 0);
        }
        x.die(0);
        Check.due("the fourth parcel is the first heir's", x.owner(4), 1);
    }

    // Promise 21: "person: 0 to 11" "Returns how many parcels went to heirs."
    private static void dieAtTheEdges() {
        Peatland x = Scene.fortyParcels();
        x.name(0, 11);
        Check.due("12, 24 and 36", x.die(0), 3);
        Check.due("without heirs: those and 11, 23, 35", x.die(11), 0);
        Check.due("without parcels", new Peatland().die(5), 0);
        Check.due("to the state", x.owner(36), -1);
    }

    // Promise 21: "Throws IndexOutOfBoundsException if there is no such person"
    private static void dieOfNone() {
        Peatland x = new Peatland();
        for (int bad : new int[] {-1, 12, LEAST, MOST}) {
            Check.outOfBounds("person " + bad, () -> x.die(bad));
        }
        Check.due("the last person", x.die(11), 0);
    }

    // Promise 21: "Throws IllegalStateException if the person is dead"
    private static void dieTwice() {
        Peatland x = new Peatland();
        for (int p = 0; p < 12; p++) {
            int person = p;
            Check.due("all can die", x.die(p), 0);
            Check.badState("but once", () -> x.die(person));
        }
    }
}
