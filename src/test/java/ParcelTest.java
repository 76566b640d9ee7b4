/** Promises 1 to 3 and 23 to 27: a new object, grant, merge, and what is asked of parcels. */
final class ParcelTest {
    private ParcelTest() {
    }

    public static void main(String[] args) {
        newObject();
        grantField();
        grantOverlap();
        grantBringsRights();
        grantLeavesTheOldOne();
        grantRefused();
        grantLimits();
        grantRightsLimit();
        mergeBringsAll();
        mergeBringsSheepOfAll();
        mergeOfState();
        mergeBringsMissingRightsOnly();
        mergeRefused();
        mergeRightsLimit();
        mergedIsTakenAsTheOther();
        mergedTwice();
        chains();
        longChain();
        askedRefused();
        Check.end("ParcelTest");
    }

    private static void newObject() {
        Peatland x = new Peatland();
        Check.due("1 parcels", x.parcels(), 1);
        Check.due("1 owner", x.owner(0), Peatland.NONE);
        Check.due("1 area", x.area(0), 100);
        Check.due("1 today", x.today(), 0);
        for (int s = 0; s < 100; s++) {
            newSquare(s);
        }
        for (int p = 0; p < 12; p++) {
            Check.due("1 paid " + p, x.paid(p), 0);
            Check.due("1 sheep " + p, x.sheep(p, 0), 0);
            Check.due("1 alive " + p, x.survey(p, 0, 0), p + 1);
        }
        Check.due("1 all water", x.water(0), 4000);
        Check.due("1 rained", x.water(1), 0);
        Check.due("1 ran off", x.water(2), 0);
        Check.due("1 dried", x.water(3), 0);
        Check.due("1 wind", x.wind(1), 0);
    }

    private static void newSquare(int s) {
        Peatland x = new Peatland();
        Check.due("1 parcelOf " + s, x.parcelOf(s), 0);
        Check.due("1 chain " + s, x.chain(s, 0), 0);
        Check.due("1 chain behind " + s, x.chain(s, 1), Peatland.NONE);
        Check.due("1 peat " + s, x.square(s, 0), 50);
        Check.due("1 water " + s, x.square(s, 1), 40);
        Check.due("1 birds " + s, x.square(s, 2), 0);
        Check.due("1 user " + s, x.square(s, 3), Peatland.NONE);
        Check.due("1 disputed " + s, x.disputed(s), 0);
    }

    private static void grantField() {
        Peatland x = new Peatland();
        Check.due("2 grant", x.grant(0, 12, 34, 5), 1);
        int count = 0;
        for (int s = 0; s < 100; s++) {
            boolean isIn = s % 10 >= 2 && s % 10 <= 4 && s / 10 >= 1 && s / 10 <= 3;
            Check.due("2 parcelOf " + s, x.parcelOf(s), isIn ? 1 : 0);
            count += isIn ? 1 : 0;
        }
        Check.due("26 area of the new one", x.area(1), count);
        Check.due("26 area of the old one", x.area(0), 100 - count);
        Check.due("27 owner of the new one", x.owner(1), 5);
        Check.due("27 owner of the old one", x.owner(0), -1);
        Check.due("23 parcels", x.parcels(), 2);
        Check.due("2 one square", x.grant(0, 99, 99, 11), 2);
        Check.due("2 parcelOf 99", x.parcelOf(99), 2);
        Check.due("2 a row", x.grant(0, 50, 59, 0), 3);
        Check.due("26 a row", x.area(3), 10);
        Check.due("2 a column", x.grant(0, 6, 96, 0), 4);
        Check.due("26 a column", x.area(4), 9);
        Check.due("2 to the same person", x.grant(4, 6, 16, 0), 5);
        Check.due("26 of it", x.area(5), 2);
    }

    private static void grantOverlap() {
        Peatland x = new Peatland();
        x.grant(0, 0, 11, 1);
        Check.due("2 the rest of a field", x.grant(0, 0, 22, 2), 2);
        Check.due("2 squares of others stay", x.parcelOf(11), 1);
        Check.due("2 squares of the parcel go", x.parcelOf(22), 2);
        Check.due("26 area", x.area(2), 5);
        Check.badState("2 no square of the field is of the parcel", () -> x.grant(0, 0, 11, 2));
        Check.badState("2 none of the other one", () -> x.grant(1, 12, 99, 2));
    }

    private static void grantBringsRights() {
        Peatland x = new Peatland();
        x.register(Peatland.CUT, 0, 3, 0);
        x.register(Peatland.GRAZE, 0, 4, 7);
        x.register(Peatland.BURN, 0, 5, 0);
        x.release(0);
        x.grant(0, 0, 0, 2);
        Check.due("2 kind of the first", x.rightAt(3, 0), Peatland.GRAZE);
        Check.due("2 parcel of the first", x.rightAt(3, 1), 1);
        Check.due("2 person of the first", x.rightAt(3, 2), 4);
        Check.due("2 worth of the first", x.rightAt(3, 3), 2);
        Check.due("2 first comes from", x.rightAt(3, 4), 1);
        Check.due("2 kind of the second", x.rightAt(4, 0), Peatland.BURN);
        Check.due("2 second comes from", x.rightAt(4, 4), 2);
        Check.due("2 old one keeps its own", x.rightAt(1, 1), 0);
        Check.outOfBounds("2 no more than those", () -> x.rightAt(5, 0));
        Check.badState("2 the right came", () -> x.register(Peatland.GRAZE, 1, 4, 1));
    }

    private static void grantLeavesTheOldOne() {
        Peatland x = new Peatland();
        x.grant(0, 0, 11, 1);
        x.register(Peatland.GRAZE, 1, 6, 8);
        x.graze(6, 1, 8);
        Check.due("2 all of it", x.grant(1, 0, 99, 2), 2);
        Check.due("2 area without squares", x.area(1), 0);
        Check.due("2 owner stays", x.owner(1), 1);
        Check.due("2 sheep stay", x.sheep(6, 1), 8);
        Check.due("2 no sheep come", x.sheep(6, 2), 0);
        Check.due("2 right stays", x.rightAt(0, 1), 1);
        Check.due("2 worth without room", x.rightAt(0, 3), 0);
        Check.due("2 worth of what came", x.rightAt(1, 3), 8);
        Check.badState("2 from one without squares", () -> x.grant(1, 0, 99, 2));
    }

    private static void grantRefused() {
        Peatland x = new Peatland();
        x.die(9);
        Check.outOfBounds("2 parcel below", () -> x.grant(-1, 0, 0, 0));
        Check.outOfBounds("2 parcel above", () -> x.grant(1, 0, 0, 0));
        Check.outOfBounds("2 from below", () -> x.grant(0, -1, 0, 0));
        Check.outOfBounds("2 from above", () -> x.grant(0, 100, 99, 0));
        Check.outOfBounds("2 to below", () -> x.grant(0, 0, -1, 0));
        Check.outOfBounds("2 to above", () -> x.grant(0, 0, 100, 0));
        Check.outOfBounds("2 person below", () -> x.grant(0, 0, 0, -1));
        Check.outOfBounds("2 person above", () -> x.grant(0, 0, 0, 12));
        Check.outOfBounds("2 person ahead of field", () -> x.grant(0, 1, 0, 12));
        Check.outOfBounds("2 parcel ahead of field", () -> x.grant(7, 1, 0, 0));
        Check.outOfBounds("2 extremes", () -> x.grant(Integer.MIN_VALUE, Integer.MAX_VALUE, 0, 0));
        Check.badArgument("2 column goes down", () -> x.grant(0, 1, 10, 0));
        Check.badArgument("2 row goes down", () -> x.grant(0, 10, 1, 0));
        Check.badArgument("2 field ahead of the dead", () -> x.grant(0, 1, 0, 9));
        Check.badState("2 the dead", () -> x.grant(0, 0, 0, 9));
        Check.due("2 nothing changed", x.parcels(), 1);
        Check.due("2 nothing moved", x.area(0), 100);
    }

    private static void grantLimits() {
        Peatland x = new Peatland();
        for (int i = 1; i < 40; i++) {
            Check.due("2 parcel " + i, x.grant(0, i, i, 0), i);
        }
        Check.badState("2 there are 40", () -> x.grant(0, 99, 99, 0));
        x.merge(1, 2);
        Check.due("23 the merged one counts", x.parcels(), 40);
        Check.badState("2 the merged one counts", () -> x.grant(0, 99, 99, 0));
        Check.badArgument("2 field ahead of 40", () -> x.grant(0, 99, 98, 0));
    }

    private static void grantRightsLimit() {
        Peatland x = new Peatland();
        for (int i = 0; i < 36; i++) {
            x.register(i / 12, 0, i % 12, 1);
        }
        x.release(0);
        x.grant(0, 0, 0, 0);
        for (int i = 1; i < 28; i++) {
            x.release(i);
        }
        x.grant(0, 1, 1, 0);
        x.register(Peatland.GRAZE, 0, 0, 1);
        Check.badState("2 there would be 81 rights", () -> x.grant(0, 2, 2, 0));
        Check.due("2 no parcel", x.parcels(), 3);
        Check.outOfBounds("2 no right", () -> x.rightAt(80, 0));
        x.release(79);
        Check.badState("2 ended ones count", () -> x.grant(0, 2, 2, 0));
        for (int i = 28; i < 36; i++) {
            x.release(i);
        }
        Check.due("2 with no rights there", x.grant(0, 2, 2, 0), 3);
        exactlyEighty();
    }

    private static void exactlyEighty() {
        Peatland x = new Peatland();
        for (int i = 0; i < 20; i++) {
            x.register(i / 12, 0, i % 12, 1);
        }
        Check.due("2 to 40 rights", x.grant(0, 0, 0, 0), 1);
        Check.due("2 to 60 rights", x.grant(0, 1, 1, 0), 2);
        Check.due("2 to 80 rights", x.grant(0, 2, 2, 0), 3);
        Check.due("2 the last one", x.rightAt(79, 4), 19);
        Check.badState("2 to 100 rights", () -> x.grant(0, 3, 3, 0));
        oneTooMany();
    }

    private static void oneTooMany() {
        Peatland x = new Peatland();
        for (int i = 0; i < 27; i++) {
            x.register(i / 12, 0, i % 12, 1);
        }
        x.grant(0, 0, 0, 0);
        Check.badState("2 to 81 rights", () -> x.grant(0, 1, 1, 0));
        x.release(26);
        Check.due("2 one less", x.grant(0, 1, 1, 0), 2);
        Check.due("2 the last one", x.rightAt(79, 4), 25);
    }

    private static void mergeBringsAll() {
        Peatland x = new Peatland();
        x.grant(0, 0, 11, 1);
        x.grant(0, 50, 52, 1);
        x.register(Peatland.GRAZE, 1, 6, 8);
        x.register(Peatland.GRAZE, 2, 6, 3);
        x.register(Peatland.GRAZE, 2, 7, 3);
        x.graze(6, 1, 8);
        x.graze(6, 2, 2);
        x.graze(7, 2, 3);
        Check.due("3 merge", x.merge(1, 2), 7);
        Check.due("3 sheep together", x.sheep(6, 2), 10);
        Check.due("3 sheep of others", x.sheep(7, 2), 3);
        Check.due("3 parcel of the squares", x.parcelOf(11), 2);
        Check.due("3 right ended", x.rightAt(0, 0), Peatland.NONE);
        Check.due("3 right was there", x.rightAt(1, 3), 3);
        Check.outOfBounds("3 no right came", () -> x.rightAt(3, 0));
        Check.due("3 released already", x.release(0), false);
    }

    private static void mergeBringsSheepOfAll() {
        Peatland x = new Peatland();
        x.grant(0, 0, 33, 1);
        x.grant(0, 50, 52, 1);
        for (int p = 0; p < 12; p++) {
            x.register(Peatland.GRAZE, 1, p, 2);
            x.graze(p, 1, p % 3);
        }
        x.merge(1, 2);
        for (int p = 0; p < 12; p++) {
            Check.due("3 sheep of " + p, x.sheep(p, 2), p % 3);
            Check.due("3 right of " + p, x.rightAt(12 + p, 2), p);
        }
    }

    private static void mergeOfState() {
        Peatland x = new Peatland();
        x.grant(0, 0, 11, 1);
        x.die(1);
        Check.due("3 both of the state", x.merge(0, 1), 100);
        Check.due("3 owner", x.owner(0), Peatland.NONE);
        Check.due("3 area", x.area(0), 100);
        Check.due("3 parcelOf", x.parcelOf(99), 1);
    }

    private static void mergeBringsMissingRightsOnly() {
        Peatland x = new Peatland();
        x.grant(0, 0, 11, 1);
        x.grant(0, 50, 52, 1);
        x.register(Peatland.BURN, 1, 4, 0);
        x.register(Peatland.GRAZE, 1, 4, 5);
        x.register(Peatland.GRAZE, 1, 5, 6);
        x.register(Peatland.CUT, 1, 4, 0);
        x.register(Peatland.GRAZE, 2, 5, 9);
        x.register(Peatland.CUT, 2, 4, 0);
        x.release(5);
        x.merge(1, 2);
        Check.due("3 first that is missing", x.rightAt(6, 4), 0);
        Check.due("3 second that is missing", x.rightAt(7, 4), 1);
        Check.due("3 its shares", x.rightAt(7, 3), 5);
        Check.due("3 its person", x.rightAt(7, 2), 4);
        Check.due("3 its parcel", x.rightAt(7, 1), 2);
        Check.due("3 one that was ended is missing", x.rightAt(8, 4), 3);
        Check.due("3 one that is there stays", x.rightAt(4, 3), 9);
        Check.outOfBounds("3 not more", () -> x.rightAt(9, 0));
        for (int i = 0; i < 4; i++) {
            Check.due("3 ended " + i, x.rightAt(i, 1), Peatland.NONE);
        }
    }

    private static void mergeRefused() {
        Peatland x = new Peatland();
        x.grant(0, 0, 0, 1);
        x.grant(0, 1, 1, 2);
        x.grant(0, 2, 2, 1);
        Check.outOfBounds("3 parcel below", () -> x.merge(-1, 0));
        Check.outOfBounds("3 parcel above", () -> x.merge(4, 0));
        Check.outOfBounds("3 into below", () -> x.merge(0, -1));
        Check.outOfBounds("3 into above", () -> x.merge(0, 4));
        Check.badState("3 the same", () -> x.merge(1, 1));
        Check.badState("3 other owners", () -> x.merge(1, 2));
        Check.badState("3 of the state into a person's", () -> x.merge(0, 1));
        Check.badState("3 of a person into the state's", () -> x.merge(1, 0));
        x.merge(3, 1);
        Check.badState("3 the same since", () -> x.merge(3, 1));
        Check.badState("3 the same since, too", () -> x.merge(1, 3));
        Check.due("3 nothing changed", x.area(0), 97);
    }

    private static void mergeRightsLimit() {
        Peatland x = new Peatland();
        x.grant(0, 0, 0, 1);
        x.grant(0, 1, 1, 1);
        for (int i = 0; i < 36; i++) {
            x.register(i / 12, 1, i % 12, 1);
        }
        for (int i = 0; i < 34; i++) {
            x.register(i / 12, 0, i % 12, 1);
        }
        for (int i = 0; i < 8; i++) {
            x.register(i / 12, 2, i % 12, 1);
        }
        Check.badState("3 there would be more than 80 rights", () -> x.merge(1, 2));
        Check.due("3 nothing ended", x.rightAt(0, 1), 1);
        Check.due("3 nothing moved", x.area(1), 1);
        Check.due("3 none is missing", x.merge(2, 1), 2);
        eightyByMerge();
    }

    private static void eightyByMerge() {
        Peatland x = new Peatland();
        x.grant(0, 0, 0, 1);
        x.grant(0, 1, 1, 1);
        for (int i = 0; i < 36; i++) {
            x.register(i / 12, 1, i % 12, 1);
        }
        for (int i = 0; i < 8; i++) {
            x.register(i / 12, 0, i % 12, 1);
        }
        Check.due("3 to 80 rights", x.merge(1, 2), 2);
        Check.due("3 the last one", x.rightAt(79, 4), 35);
        eightyOneByMerge();
    }

    private static void eightyOneByMerge() {
        Peatland x = new Peatland();
        x.grant(0, 0, 0, 1);
        x.grant(0, 1, 1, 1);
        for (int i = 0; i < 36; i++) {
            x.register(i / 12, 1, i % 12, 1);
        }
        for (int i = 0; i < 9; i++) {
            x.register(i / 12, 0, i % 12, 1);
        }
        Check.badState("3 to 81 rights", () -> x.merge(1, 2));
        x.release(35);
        Check.due("3 one less", x.merge(1, 2), 2);
        Check.due("3 the last one", x.rightAt(79, 4), 34);
    }

    private static void mergedIsTakenAsTheOther() {
        Peatland x = new Peatland();
        x.grant(0, 0, 11, 1);
        x.grant(0, 50, 51, 1);
        x.merge(1, 2);
        Check.due("3 area", x.area(1), 6);
        Check.due("3 owner", x.owner(1), 1);
        Check.due("3 register", x.register(Peatland.GRAZE, 1, 4, 5), 0);
        Check.due("3 right's parcel", x.rightAt(0, 1), 2);
        Check.badState("3 register again", () -> x.register(Peatland.GRAZE, 2, 4, 5));
        Check.due("3 graze", x.graze(4, 1, 5), 0);
        Check.due("3 sheep of either", x.sheep(4, 1) + x.sheep(4, 2), 10);
        Check.due("3 grant", x.grant(1, 50, 50, 3), 3);
        Check.due("3 the area since", x.area(2), 5);
        x.name(1, 8);
        Check.due("3 the merged one is no other", x.die(1), 1);
        Check.due("3 owner since", x.owner(1), 8);
        Check.due("23 parcels", x.parcels(), 4);
    }

    private static void mergedTwice() {
        Peatland x = new Peatland();
        x.grant(0, 0, 0, 1);
        x.grant(0, 1, 1, 1);
        x.grant(0, 2, 2, 1);
        Check.due("3 first", x.merge(1, 2), 2);
        Check.due("3 by the merged number", x.merge(1, 3), 3);
        for (int i = 1; i < 4; i++) {
            Check.due("3 area by " + i, x.area(i), 3);
        }
        Check.due("25 now", x.chain(0, 0), 3);
        Check.due("25 ahead of that", x.chain(0, 1), 2);
        Check.due("25 at first granted", x.chain(0, 2), 1);
        Check.due("25 at first", x.chain(0, 3), 0);
        Check.due("25 no more", x.chain(0, 4), -1);
        Check.due("25 into which it was merged", x.chain(2, 0), 3);
        Check.due("25 was not moved by that", x.chain(2, 1), 0);
    }

    private static void chains() {
        Peatland x = new Peatland();
        x.grant(0, 0, 11, 1);
        x.grant(1, 0, 0, 2);
        Check.due("24 parcelOf", x.parcelOf(0), 2);
        Check.due("25 chain of 0", x.chain(0, 1), 1);
        Check.due("25 chain of 0", x.chain(0, 2), 0);
        Check.due("25 chain of 11", x.chain(11, 1), 0);
        Check.due("25 chain of 11", x.chain(11, 2), -1);
        Check.due("25 chain of 50", x.chain(50, 0), 0);
        Check.due("25 far", x.chain(0, Integer.MAX_VALUE), -1);
        x.survey(3, 0, 1);
        x.file(3, false, 0, 1);
        x.evidence(0, true, 1);
        x.decide(0);
        x.appeal(0);
        x.evidence(0, false, 1);
        x.decide(0);
        Check.due("25 came back", x.chain(0, 0), 2);
        Check.due("25 from the case's", x.chain(0, 1), 3);
        Check.due("25 was taken from", x.chain(0, 2), 2);
        Check.due("25 came back, other", x.chain(1, 0), 1);
        Check.due("25 all of it", x.chain(1, 3), 0);
        Check.due("25 all of it", x.chain(1, 4), -1);
    }

    /** A square that moves as often as a square can: 39 parcels, and merges in between. */
    private static void longChain() {
        Peatland x = new Peatland();
        int moves = 0;
        for (int i = 1; i < 40; i++) {
            x.grant(x.parcelOf(0), 0, 0, 1);
            moves++;
            if (i > 1) {
                x.merge(i, i - 1);
                moves++;
            }
        }
        Check.due("25 parcel of the long chain", x.parcelOf(0), 1);
        Check.due("25 its first", x.chain(0, moves), 0);
        Check.due("25 its end", x.chain(0, moves + 1), -1);
        Check.due("25 its last grant", x.chain(0, 1), 39);
        Check.due("25 of another square", x.chain(1, 1), -1);
    }

    private static void askedRefused() {
        Peatland x = new Peatland();
        Check.outOfBounds("24 below", () -> x.parcelOf(-1));
        Check.outOfBounds("24 above", () -> x.parcelOf(100));
        Check.outOfBounds("25 below", () -> x.chain(-1, 0));
        Check.outOfBounds("25 above", () -> x.chain(100, 0));
        Check.outOfBounds("25 back below", () -> x.chain(0, -1));
        Check.outOfBounds("25 back far below", () -> x.chain(0, Integer.MIN_VALUE));
        Check.outOfBounds("26 below", () -> x.area(-1));
        Check.outOfBounds("26 above", () -> x.area(1));
        Check.outOfBounds("27 below", () -> x.owner(-1));
        Check.outOfBounds("27 above", () -> x.owner(1));
    }
}
