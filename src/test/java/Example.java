public final class Example {
    public static void main(String[] args) {
        Peatland moor = new Peatland();
        int parcel = moor.grant(0, 0, 22, 3);
        System.out.println("The parcel " + parcel + " of the person 3 has " + moor.area(parcel) + " squares.");

        int right = moor.register(Peatland.GRAZE, parcel, 5, 20);
        System.out.println("20 shares are worth " + moor.rightAt(right, 3) + " sheep.");
        moor.graze(5, parcel, 18);
        try {
            moor.graze(5, parcel, 19);
        } catch (IllegalStateException e) {
            System.out.println("There is no room for 19, so there are still " + moor.sheep(5, parcel) + ".");
        }

        moor.survey(7, 1, 12);
        int number = moor.file(7, false, 0, 99);
        moor.evidence(number, true, 5);
        moor.evidence(number, false, 4);
        System.out.println(moor.decide(number) + " squares come to the person " + moor.owner(moor.parcelOf(1)) + ".");
        System.out.println("Is it granted? " + (moor.caseAt(number, 0) == Peatland.GRANTED));

        moor.pass(10);
        System.out.println("On the day " + moor.today() + " the square 0 has " + moor.square(0, 0) + " of peat.");
    }
}
