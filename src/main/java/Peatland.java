import java.util.ArrayList;
import java.util.Arrays;
import java.util.List;

/**
 * A land reform on a moor of a hundred squares. What each call promises stands in ../shared/DOC.md;
 * every call looks at all that it may refuse before it changes anything.
 */
public final class Peatland {
    public static final int NONE = -1;
    public static final int GRAZE = 0, CUT = 1, BURN = 2;
    public static final int OPEN = 0, GRANTED = 1, REFUSED = 2;

    private static final int SIDE = 10;
    private static final int SQUARES = 100;
    private static final int PERSONS = 12;
    private static final int KINDS = 3;

    private static final int MAX_PARCELS = 40;
    private static final int MAX_MAPS = 12;
    private static final int MAX_CASES = 16;
    private static final int MAX_RIGHTS = 80;
    private static final int MAX_DRAINS = 20;
    private static final int MAX_HEIRS = 3;

    private static final int MAX_WEIGHT = 9;
    private static final int LAST_STAGE = 2;
    private static final int MAX_SHARES = 99;
    private static final int MAX_SHEEP = 400;
    private static final int SHEEP_PER_SQUARE = 2;
    private static final int USE_FOR_A_CASE = 720;

    private static final int FIRST_PEAT = 50;
    private static final int MAX_PEAT = 200;
    private static final int MAX_CUT = 20;
    private static final int BURN_LOSS = 5;
    private static final int BURN_REST = 1080;
    private static final int BURN_WATER = 30;
    private static final int BURN_WIND = 3;
    private static final int BURN_FROM = 60;
    private static final int BURN_TO = 150;
    private static final int MAX_WIND = 9;

    private static final int FIRST_WATER = 40;
    private static final int MAX_WATER = 100;
    private static final int WET = 60;
    private static final int MAX_RAIN = 60;
    private static final int DRAIN_PART = 4;
    private static final int DRY_FROM = 120;
    private static final int DRY_BEFORE = 240;

    private static final int BIRD_PEAT = 10;
    private static final int BIRD_REST = 360;
    private static final int PAID_PER_WET_SQUARE = 2;

    private static final int YEAR = 360;
    private static final int LAST_DAY = 20000;
    private static final int MAX_PASS = 200;

    private final Square[] squares = new Square[SQUARES];
    private final Person[] persons = new Person[PERSONS];
    private final List<Parcel> parcels = new ArrayList<>();
    private final List<FieldMap> maps = new ArrayList<>();
    private final List<Case> cases = new ArrayList<>();
    private final List<Right> rights = new ArrayList<>();
    private final List<Drain> drains = new ArrayList<>();
    private int today;
    private int windNow;
    private int rained;
    private int ranOff;
    private int dried;

    public Peatland() {
        Parcel whole = new Parcel(0, null);
        parcels.add(whole);
        for (int i = 0; i < SQUARES; i++) {
            squares[i] = new Square(i, whole);
        }
        whole.squareCount = SQUARES;
        for (int i = 0; i < PERSONS; i++) {
            persons[i] = new Person(i);
        }
    }

    // ---- parcels

    public int grant(int parcel, int from, int to, int person)
            throws IndexOutOfBoundsException, IllegalArgumentException, IllegalStateException {
        Parcel old = parcelNumbered(parcel);
        checkSquares(from, to);
        Person owner = personNumbered(person);
        checkField(from, to);
        checkState(owner.isAlive);
        checkState(hasSquareIn(old, from, to));
        checkState(parcels.size() < MAX_PARCELS);
        checkState(rights.size() + countRightsOn(old) <= MAX_RIGHTS);
        Parcel granted = addParcel(owner);
        bringRights(old, granted);
        for (Square square : squares) {
            if (square.parcel == old && isInField(square.number, from, to)) {
                square.moveTo(granted);
            }
        }
        return granted.number;
    }

    public int merge(int parcel, int into) throws IndexOutOfBoundsException, IllegalStateException {
        Parcel merged = parcelNumbered(parcel);
        Parcel target = parcelNumbered(into);
        checkState(merged != target);
        checkState(merged.owner == target.owner);
        checkState(rights.size() + countRightsToBring(merged, target) <= MAX_RIGHTS);
        bringRights(merged, target);
        endRightsOn(merged);
        bringSheep(merged, target);
        for (Square square : squares) {
            if (square.parcel == merged) {
                square.moveTo(target);
            }
        }
        merged.mergedInto = target;
        return target.squareCount;
    }

    // ---- maps, use, cases

    public int survey(int person, int from, int to)
            throws IndexOutOfBoundsException, IllegalArgumentException, IllegalStateException {
        Person holder = personNumbered(person);
        checkSquares(from, to);
        checkField(from, to);
        checkState(holder.isAlive);
        checkState(maps.size() < MAX_MAPS);
        maps.add(new FieldMap(holder, from, to));
        return maps.size();
    }

    public int use(int person, int from, int to)
            throws IndexOutOfBoundsException, IllegalArgumentException, IllegalStateException {
        Person user = personNumbered(person);
        checkSquares(from, to);
        checkField(from, to);
        checkState(user.isAlive);
        int used = 0;
        for (Square square : squares) {
            if (square.user != user && isInField(square.number, from, to)) {
                square.user = user;
                square.usedSince = today;
            }
            if (square.user == user) {
                used++;
            }
        }
        return used;
    }

    public int file(int person, boolean isByUse, int from, int to)
            throws IndexOutOfBoundsException, IllegalArgumentException, IllegalStateException {
        Person claimant = personNumbered(person);
        checkSquares(from, to);
        checkField(from, to);
        checkState(claimant.isAlive);
        checkState(cases.size() < MAX_CASES);
        Case filed = new Case(claimant);
        for (Square square : squares) {
            if (isInField(square.number, from, to) && isClaimable(square, claimant, isByUse)) {
                filed.addSquare(square.number);
            }
        }
        checkState(filed.squareCount > 0);
        cases.add(filed);
        return cases.size() - 1;
    }

    public int evidence(int number, boolean isFor, int weight)
            throws IndexOutOfBoundsException, IllegalArgumentException, IllegalStateException {
        Case told = caseNumbered(number);
        checkArgument(isInRange(weight, 1, MAX_WEIGHT));
        checkState(told.state == OPEN);
        if (isFor) {
            told.evidenceFor += weight;
            return told.evidenceFor;
        }
        told.evidenceAgainst += weight;
        return told.evidenceAgainst;
    }

    public int decide(int number) throws IndexOutOfBoundsException, IllegalStateException {
        Case decided = caseNumbered(number);
        checkState(decided.state == OPEN);
        if (decided.evidenceFor <= decided.evidenceAgainst) {
            return refuseCase(decided);
        }
        int taken = countTaken(decided);
        checkState(taken == 0 || parcels.size() < MAX_PARCELS);
        decided.state = GRANTED;
        decided.stageWhenGranted = decided.stage;
        if (taken > 0) {
            takeSquares(decided);
        }
        return taken;
    }

    public int appeal(int number) throws IndexOutOfBoundsException, IllegalStateException {
        Case appealed = caseNumbered(number);
        checkState(appealed.state != OPEN);
        checkState(appealed.stage < LAST_STAGE);
        checkState(appealed.person.isAlive);
        appealed.state = OPEN;
        appealed.stage++;
        return appealed.stage;
    }

    // ---- rights and sheep

    public int register(int kind, int parcel, int person, int shares)
            throws IndexOutOfBoundsException, IllegalArgumentException, IllegalStateException {
        checkIndex(kind, KINDS);
        Parcel land = parcelNumbered(parcel);
        Person holder = personNumbered(person);
        checkArgument(kind != GRAZE || isInRange(shares, 1, MAX_SHARES));
        checkState(holder.isAlive);
        checkState(!hasRight(kind, land, holder));
        checkState(rights.size() < MAX_RIGHTS);
        return addRight(new Right(kind, land, holder, shares, NONE));
    }

    public boolean release(int right) throws IndexOutOfBoundsException {
        Right released = rightNumbered(right);
        boolean wasInForce = !released.hasEnded;
        released.hasEnded = true;
        return wasInForce;
    }

    public int graze(int person, int parcel, int sheep)
            throws IndexOutOfBoundsException, IllegalArgumentException, IllegalStateException {
        Person keeper = personNumbered(person);
        Parcel land = parcelNumbered(parcel);
        checkArgument(isInRange(sheep, 0, MAX_SHEEP));
        checkState(sheep <= worthOfRights(keeper, land));
        int before = land.sheepOf(keeper.number);
        land.setSheep(keeper.number, sheep);
        return before;
    }

    // ---- water, peat, fire, days

    public int rain(int amount) throws IllegalArgumentException {
        checkArgument(isInRange(amount, 1, MAX_RAIN));
        int runsOff = 0;
        for (Square square : squares) {
            int taken = Math.min(amount, MAX_WATER - square.water);
            square.water += taken;
            runsOff += amount - taken;
        }
        rained += amount * SQUARES;
        ranOff += runsOff;
        return runsOff;
    }

    public int dig(int from, int to)
            throws IndexOutOfBoundsException, IllegalArgumentException, IllegalStateException {
        checkSquares(from, to);
        checkArgument(isSharingSide(from, to));
        Square source = squares[from];
        Square target = squares[to];
        checkState(!hasDrain(source, target));
        checkState(drains.size() < MAX_DRAINS);
        drains.add(new Drain(source, target));
        return drains.size();
    }

    public int fill(int drain) throws IndexOutOfBoundsException {
        checkIndex(drain, drains.size());
        drains.remove(drain);
        return drains.size();
    }

    public int cut(int person, int square, int amount)
            throws IndexOutOfBoundsException, IllegalArgumentException, IllegalStateException {
        Person cutter = personNumbered(person);
        Square place = squareNumbered(square);
        checkArgument(isInRange(amount, 1, MAX_CUT));
        checkState(cutter.isAlive);
        checkState(isAllowed(cutter, CUT, place.parcel));
        checkState(place.peat >= amount);
        place.peat -= amount;
        return place.peat;
    }

    public int wind(int wind) throws IllegalArgumentException {
        checkArgument(isInRange(wind, 0, MAX_WIND));
        int before = windNow;
        windNow = wind;
        return before;
    }

    public int burn(int person, int square) throws IndexOutOfBoundsException, IllegalStateException {
        Person burner = personNumbered(person);
        Square place = squareNumbered(square);
        checkState(burner.isAlive);
        checkState(isAllowed(burner, BURN, place.parcel));
        checkState(isBurnable(place));
        place.peat -= Math.min(BURN_LOSS, place.peat);
        place.burntOn = today;
        return place.peat;
    }

    public int pass(int days) throws IllegalArgumentException, IllegalStateException {
        checkArgument(isInRange(days, 1, MAX_PASS));
        checkState(today + days <= LAST_DAY);
        for (int i = 0; i < days; i++) {
            passOneDay();
        }
        return today;
    }

    // ---- heirs

    public int name(int person, int heir) throws IndexOutOfBoundsException, IllegalStateException {
        Person giver = personNumbered(person);
        Person named = personNumbered(heir);
        checkState(giver.isAlive && named.isAlive);
        checkState(giver != named);
        checkState(!giver.hasNamed(named));
        checkState(giver.heirs.size() < MAX_HEIRS);
        giver.heirs.add(named);
        return giver.heirs.size();
    }

    public int die(int person) throws IndexOutOfBoundsException, IllegalStateException {
        Person dead = personNumbered(person);
        checkState(dead.isAlive);
        dead.isAlive = false;
        int inherited = handDownParcels(dead);
        endRightsOf(dead);
        endSheepOf(dead);
        endMapsOf(dead);
        endUsesOf(dead);
        refuseOpenCasesOf(dead);
        return inherited;
    }

    // ---- what is asked

    public int today() {
        return today;
    }

    public int parcels() {
        return parcels.size();
    }

    public int parcelOf(int square) throws IndexOutOfBoundsException {
        return squareNumbered(square).parcel.number;
    }

    public int chain(int square, int back) throws IndexOutOfBoundsException {
        Square place = squareNumbered(square);
        if (back < 0) {
            throw new IndexOutOfBoundsException("back is below 0");
        }
        return place.parcelBefore(back);
    }

    public int area(int parcel) throws IndexOutOfBoundsException {
        return parcelNumbered(parcel).squareCount;
    }

    public int owner(int parcel) throws IndexOutOfBoundsException {
        return numberOf(parcelNumbered(parcel).owner);
    }

    public int disputed(int square) throws IndexOutOfBoundsException {
        checkIndex(square, SQUARES);
        int holders = 0;
        for (Person person : persons) {
            if (isMapped(square, person)) {
                holders++;
            }
        }
        return holders;
    }

    public int caseAt(int number, int what) throws IndexOutOfBoundsException {
        Case told = caseNumbered(number);
        switch (what) {
            case 0:
                return told.state;
            case 1:
                return told.stage;
            case 2:
                return told.squareCount;
            case 3:
                return countGivenBy(told);
            default:
                throw new IndexOutOfBoundsException("no such thing is told of a case");
        }
    }

    public int rightAt(int right, int what) throws IndexOutOfBoundsException {
        Right told = rightNumbered(right);
        checkIndex(what, 5);
        if (told.hasEnded) {
            return NONE;
        }
        switch (what) {
            case 0:
                return told.kind;
            case 1:
                return told.parcel.number;
            case 2:
                return told.person.number;
            case 3:
                return worthOf(right);
            default:
                return told.comesFrom;
        }
    }

    public int square(int square, int what) throws IndexOutOfBoundsException {
        Square told = squareNumbered(square);
        switch (what) {
            case 0:
                return told.peat;
            case 1:
                return told.water;
            case 2:
                return countBirds(told);
            case 3:
                return numberOf(told.user);
            default:
                throw new IndexOutOfBoundsException("no such thing is told of a square");
        }
    }

    public int water(int what) throws IndexOutOfBoundsException {
        switch (what) {
            case 0:
                return countWater();
            case 1:
                return rained;
            case 2:
                return ranOff;
            case 3:
                return dried;
            default:
                throw new IndexOutOfBoundsException("no such thing is told of water");
        }
    }

    public int paid(int person) throws IndexOutOfBoundsException {
        return personNumbered(person).paid;
    }

    public int sheep(int person, int parcel) throws IndexOutOfBoundsException {
        Person keeper = personNumbered(person);
        return parcelNumbered(parcel).sheepOf(keeper.number);
    }

    // ---- what a call is refused for

    private static void checkIndex(int index, int count) {
        if (index < 0 || index >= count) {
            throw new IndexOutOfBoundsException("there is none of that number");
        }
    }

    private static void checkArgument(boolean isRight) {
        if (!isRight) {
            throw new IllegalArgumentException("an argument is out of range");
        }
    }

    private static void checkState(boolean isPossible) {
        if (!isPossible) {
            throw new IllegalStateException("this cannot be done now");
        }
    }

    private static void checkSquares(int from, int to) {
        checkIndex(from, SQUARES);
        checkIndex(to, SQUARES);
    }

    private static void checkField(int from, int to) {
        checkArgument(from % SIDE <= to % SIDE && from / SIDE <= to / SIDE);
    }

    private static boolean isInRange(int value, int least, int most) {
        return value >= least && value <= most;
    }

    private Square squareNumbered(int number) {
        checkIndex(number, SQUARES);
        return squares[number];
    }

    private Person personNumbered(int number) {
        checkIndex(number, PERSONS);
        return persons[number];
    }

    private Parcel parcelNumbered(int number) {
        checkIndex(number, parcels.size());
        return parcels.get(number).current();
    }

    private Case caseNumbered(int number) {
        checkIndex(number, cases.size());
        return cases.get(number);
    }

    private Right rightNumbered(int number) {
        checkIndex(number, rights.size());
        return rights.get(number);
    }

    // ---- fields and parcels

    private static boolean isInField(int square, int from, int to) {
        return isInRange(square % SIDE, from % SIDE, to % SIDE)
            && isInRange(square / SIDE, from / SIDE, to / SIDE);
    }

    private static boolean isSharingSide(int one, int other) {
        int columns = Math.abs(one % SIDE - other % SIDE);
        int rows = Math.abs(one / SIDE - other / SIDE);
        return columns + rows == 1;
    }

    private static int numberOf(Person person) {
        return person == null ? NONE : person.number;
    }

    private boolean hasSquareIn(Parcel parcel, int from, int to) {
        for (Square square : squares) {
            if (square.parcel == parcel && isInField(square.number, from, to)) {
                return true;
            }
        }
        return false;
    }

    private Parcel addParcel(Person owner) {
        Parcel added = new Parcel(parcels.size(), owner);
        parcels.add(added);
        return added;
    }

    private static void bringSheep(Parcel from, Parcel to) {
        for (int person = 0; person < PERSONS; person++) {
            to.setSheep(person, to.sheepOf(person) + from.sheepOf(person));
            from.setSheep(person, 0);
        }
    }

    // ---- maps, use, cases

    private boolean isMapped(int square, Person person) {
        for (int i = 0; i < maps.size(); i++) {
            FieldMap map = maps.get(i);
            if (map.person == person && isInField(square, map.from, map.to)) {
                return true;
            }
        }
        return false;
    }

    private boolean isClaimable(Square square, Person claimant, boolean isByUse) {
        if (isByUse) {
            return square.user == claimant && today - square.usedSince >= USE_FOR_A_CASE;
        }
        return isMapped(square.number, claimant);
    }

    private static boolean isTaken(Square square, Case granted) {
        if (!granted.hasSquare(square.number) || square.parcel.owner == granted.person) {
            return false;
        }
        Case giver = square.giver;
        return giver == null || giver == granted || giver.stageWhenGranted <= granted.stage;
    }

    private int countTaken(Case granted) {
        int taken = 0;
        for (Square square : squares) {
            if (isTaken(square, granted)) {
                taken++;
            }
        }
        return taken;
    }

    private void takeSquares(Case granted) {
        Parcel given = addParcel(granted.person);
        for (Square square : squares) {
            if (isTaken(square, granted)) {
                square.giver = granted;
                square.takenFrom = square.parcel;
                square.moveTo(given);
            }
        }
    }

    private int refuseCase(Case refused) {
        refused.state = REFUSED;
        int moved = 0;
        for (Square square : squares) {
            if (square.giver == refused && square.goBack()) {
                moved++;
            }
        }
        return moved;
    }

    private int countGivenBy(Case granted) {
        int given = 0;
        for (Square square : squares) {
            if (square.giver == granted) {
                given++;
            }
        }
        return given;
    }

    // ---- rights

    private int addRight(Right right) {
        rights.add(right);
        return rights.size() - 1;
    }

    private boolean hasRight(int kind, Parcel parcel, Person person) {
        for (int i = 0; i < rights.size(); i++) {
            Right right = rights.get(i);
            if (right.isOn(parcel) && right.kind == kind && right.person == person) {
                return true;
            }
        }
        return false;
    }

    private boolean isAllowed(Person person, int kind, Parcel parcel) {
        return parcel.owner == person || hasRight(kind, parcel, person);
    }

    private int countRightsOn(Parcel parcel) {
        int count = 0;
        for (int i = 0; i < rights.size(); i++) {
            if (rights.get(i).isOn(parcel)) {
                count++;
            }
        }
        return count;
    }

    private boolean isToBring(Right right, Parcel from, Parcel to) {
        return right.isOn(from) && !hasRight(right.kind, to, right.person);
    }

    private int countRightsToBring(Parcel from, Parcel to) {
        int count = 0;
        for (int i = 0; i < rights.size(); i++) {
            if (isToBring(rights.get(i), from, to)) {
                count++;
            }
        }
        return count;
    }

    private void bringRights(Parcel from, Parcel to) {
        int count = rights.size();
        for (int i = 0; i < count; i++) {
            Right right = rights.get(i);
            if (isToBring(right, from, to)) {
                addRight(new Right(right.kind, to, right.person, right.shares, i));
            }
        }
    }

    private void endRightsOn(Parcel parcel) {
        for (int i = 0; i < rights.size(); i++) {
            Right right = rights.get(i);
            if (right.isOn(parcel)) {
                right.hasEnded = true;
            }
        }
    }

    private int worthOf(int number) {
        Right asked = rightNumbered(number);
        if (asked.kind != GRAZE) {
            return 0;
        }
        int room = asked.parcel.room();
        for (int i = 0; i < number; i++) {
            Right right = rights.get(i);
            if (right.isOn(asked.parcel) && right.kind == GRAZE) {
                room -= right.shares;
            }
        }
        return Math.max(0, Math.min(asked.shares, room));
    }

    private int worthOfRights(Person keeper, Parcel land) {
        int worth = 0;
        for (int i = 0; i < rights.size(); i++) {
            Right right = rights.get(i);
            if (right.isOn(land) && right.person == keeper) {
                worth += worthOf(i);
            }
        }
        return worth;
    }

    // ---- water, peat, fire

    private boolean hasDrain(Square from, Square to) {
        for (int i = 0; i < drains.size(); i++) {
            Drain drain = drains.get(i);
            if (drain.from == from && drain.to == to) {
                return true;
            }
        }
        return false;
    }

    private int countWater() {
        int sum = 0;
        for (Square square : squares) {
            sum += square.water;
        }
        return sum;
    }

    private boolean isBurntInLast(int days, Square square) {
        return square.burntOn != NONE && today - square.burntOn < days;
    }

    private boolean isBurnable(Square square) {
        return windNow <= BURN_WIND
            && square.water <= BURN_WATER
            && isInRange(today % YEAR, BURN_FROM, BURN_TO)
            && !isBurntInLast(BURN_REST, square);
    }

    private int countBirds(Square square) {
        if (isBurntInLast(BIRD_REST, square) || square.peat < BIRD_PEAT) {
            return 0;
        }
        return countWetAround(square.number % SIDE, square.number / SIDE);
    }

    private int countWetAround(int column, int row) {
        int wet = 0;
        for (int r = Math.max(0, row - 1); r <= Math.min(SIDE - 1, row + 1); r++) {
            for (int c = Math.max(0, column - 1); c <= Math.min(SIDE - 1, column + 1); c++) {
                if (squares[r * SIDE + c].isWet()) {
                    wet++;
                }
            }
        }
        return wet;
    }

    // ---- a day

    private void passOneDay() {
        today++;
        int dayOfYear = today % YEAR;
        runDrains();
        if (dayOfYear >= DRY_FROM && dayOfYear < DRY_BEFORE) {
            drySquares();
        }
        treadCrowdedParcels();
        if (dayOfYear == 0) {
            growPeat();
            payPersons();
        }
    }

    private void runDrains() {
        for (int i = 0; i < drains.size(); i++) {
            drains.get(i).run();
        }
    }

    private void drySquares() {
        for (Square square : squares) {
            if (square.water > 0) {
                square.water--;
                dried++;
            }
        }
    }

    private void treadCrowdedParcels() {
        for (int i = 0; i < parcels.size(); i++) {
            Parcel parcel = parcels.get(i);
            if (parcel.sheepCount > parcel.room()) {
                treadLowestSquare(parcel);
            }
        }
    }

    private void treadLowestSquare(Parcel parcel) {
        for (Square square : squares) {
            if (square.parcel == parcel && square.peat > 0) {
                square.peat--;
                return;
            }
        }
    }

    private void growPeat() {
        for (Square square : squares) {
            if (square.isWet() && !isBurntInLast(BIRD_REST, square)) {
                square.peat = Math.min(MAX_PEAT, square.peat + 1);
            }
        }
    }

    private void payPersons() {
        for (Square square : squares) {
            Person owner = square.parcel.owner;
            if (owner != null && owner.isAlive) {
                owner.paid += countBirds(square) + (square.isWet() ? PAID_PER_WET_SQUARE : 0);
            }
        }
    }

    // ---- what a death ends

    private int handDownParcels(Person dead) {
        List<Person> heirs = dead.livingHeirs();
        int inherited = 0;
        for (int i = 0; i < parcels.size(); i++) {
            Parcel parcel = parcels.get(i);
            if (parcel.owner != dead || parcel.mergedInto != null) {
                continue;
            }
            if (heirs.isEmpty()) {
                parcel.owner = null;
            } else {
                parcel.owner = heirs.get(inherited % heirs.size());
                inherited++;
            }
        }
        return inherited;
    }

    private void endRightsOf(Person dead) {
        for (int i = 0; i < rights.size(); i++) {
            Right right = rights.get(i);
            if (right.person == dead) {
                right.hasEnded = true;
            }
        }
    }

    private void endSheepOf(Person dead) {
        for (int i = 0; i < parcels.size(); i++) {
            parcels.get(i).setSheep(dead.number, 0);
        }
    }

    private void endMapsOf(Person dead) {
        for (int i = maps.size() - 1; i >= 0; i--) {
            if (maps.get(i).person == dead) {
                maps.remove(i);
            }
        }
    }

    private void endUsesOf(Person dead) {
        for (Square square : squares) {
            if (square.user == dead) {
                square.user = null;
            }
        }
    }

    private void refuseOpenCasesOf(Person dead) {
        for (int i = 0; i < cases.size(); i++) {
            Case open = cases.get(i);
            if (open.person == dead && open.state == OPEN) {
                refuseCase(open);
            }
        }
    }

    // ---- what the moor is made of

    private static final class Person {
        final int number;
        final List<Person> heirs = new ArrayList<>();
        boolean isAlive = true;
        int paid;

        Person(int number) {
            this.number = number;
        }

        boolean hasNamed(Person person) {
            for (int i = 0; i < heirs.size(); i++) {
                if (heirs.get(i) == person) {
                    return true;
                }
            }
            return false;
        }

        List<Person> livingHeirs() {
            List<Person> living = new ArrayList<>();
            for (int i = 0; i < heirs.size(); i++) {
                Person heir = heirs.get(i);
                if (heir.isAlive) {
                    living.add(heir);
                }
            }
            return living;
        }
    }

    private static final class Parcel {
        final int number;
        private final int[] sheepByPerson = new int[PERSONS];
        /** The person, or null for the state. */
        Person owner;
        /** Null as long as the parcel was not merged. */
        Parcel mergedInto;
        int squareCount;
        int sheepCount;

        Parcel(int number, Person owner) {
            this.number = number;
            this.owner = owner;
        }

        Parcel current() {
            Parcel parcel = this;
            while (parcel.mergedInto != null) {
                parcel = parcel.mergedInto;
            }
            return parcel;
        }

        int room() {
            return SHEEP_PER_SQUARE * squareCount;
        }

        int sheepOf(int person) {
            return isInRange(person, 0, PERSONS - 1) ? sheepByPerson[person] : 0;
        }

        void setSheep(int person, int sheep) {
            if (isInRange(person, 0, PERSONS - 1)) {
                sheepCount += sheep - sheepByPerson[person];
                sheepByPerson[person] = sheep;
            }
        }
    }

    private static final class Square {
        final int number;
        Parcel parcel;
        /** The numbers of the parcels that it was of, from the first one on. */
        private int[] chain = new int[4];
        private int chainLength = 1;
        int peat = FIRST_PEAT;
        int water = FIRST_WATER;
        int burntOn = NONE;
        /** Null if nobody uses it. */
        Person user;
        int usedSince;
        /** The case by which it is given, or null. */
        Case giver;
        /** Null as long as giver is. */
        Parcel takenFrom;

        Square(int number, Parcel parcel) {
            this.number = number;
            this.parcel = parcel;
            chain[0] = parcel.number;
        }

        boolean isWet() {
            return water >= WET;
        }

        void moveTo(Parcel target) {
            parcel.squareCount--;
            target.squareCount++;
            parcel = target;
            if (chainLength >= chain.length) {
                chain = Arrays.copyOf(chain, 2 * chainLength);
            }
            chain[chainLength] = target.number;
            chainLength++;
        }

        /** Whether that brought it to another parcel. */
        boolean goBack() {
            Parcel origin = takenFrom == null ? parcel : takenFrom.current();
            giver = null;
            takenFrom = null;
            if (origin == parcel) {
                return false;
            }
            moveTo(origin);
            return true;
        }

        int parcelBefore(int back) {
            return isInRange(back, 0, chainLength - 1) ? chain[chainLength - 1 - back] : NONE;
        }
    }

    private static final class FieldMap {
        final Person person;
        final int from;
        final int to;

        FieldMap(Person person, int from, int to) {
            this.person = person;
            this.from = from;
            this.to = to;
        }
    }

    private static final class Case {
        final Person person;
        private final boolean[] isCovered = new boolean[SQUARES];
        int squareCount;
        int state = OPEN;
        int stage;
        /** An appeal raises the stage, but what was given keeps the rank of the stage that gave it. */
        int stageWhenGranted;
        int evidenceFor;
        int evidenceAgainst;

        Case(Person person) {
            this.person = person;
        }

        void addSquare(int square) {
            if (isInRange(square, 0, SQUARES - 1) && !isCovered[square]) {
                isCovered[square] = true;
                squareCount++;
            }
        }

        boolean hasSquare(int square) {
            return isInRange(square, 0, SQUARES - 1) && isCovered[square];
        }
    }

    private static final class Right {
        final int kind;
        final Parcel parcel;
        final Person person;
        final int shares;
        /** The number of a right, or NONE. */
        final int comesFrom;
        boolean hasEnded;

        Right(int kind, Parcel parcel, Person person, int shares, int comesFrom) {
            this.kind = kind;
            this.parcel = parcel;
            this.person = person;
            this.shares = shares;
            this.comesFrom = comesFrom;
        }

        boolean isOn(Parcel land) {
            return parcel == land && !hasEnded;
        }
    }

    private static final class Drain {
        final Square from;
        final Square to;

        Drain(Square from, Square to) {
            this.from = from;
            this.to = to;
        }

        void run() {
            int moved = Math.min(from.water / DRAIN_PART, MAX_WATER - to.water);
            from.water -= moved;
            to.water += moved;
        }
    }
}
