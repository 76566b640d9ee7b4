import java.util.ArrayList;
import java.util.HashMap;
import java.util.HashSet;
import java.util.List;
import java.util.Map;
import java.util.Set;
import java.util.TreeMap;

/**
 * The document told a second time, in maps and lists and without care for cost, so that random runs
 * can be compared with the program. Persons and parcels are numbers here; -1 is the state or nobody.
 */
final class Model {
    private final List<List<Integer>> chains = new ArrayList<>();
    private final List<Integer> owners = new ArrayList<>();
    private final Map<Integer, Integer> mergedInto = new HashMap<>();
    private final Map<Integer, Integer> sheepAt = new TreeMap<>();
    private final List<int[]> maps = new ArrayList<>();
    private final Map<Integer, int[]> users = new HashMap<>();
    private final List<int[]> cases = new ArrayList<>();
    private final List<Set<Integer>> caseSquares = new ArrayList<>();
    private final Map<Integer, int[]> gifts = new HashMap<>();
    private final List<int[]> rights = new ArrayList<>();
    private final List<int[]> drains = new ArrayList<>();
    private final Map<Integer, List<Integer>> heirs = new HashMap<>();
    private final Set<Integer> dead = new HashSet<>();
    private final Map<Integer, Integer> burnt = new HashMap<>();
    private final int[] peat = new int[100];
    private final int[] wet = new int[100];
    private final int[] wages = new int[12];
    private int day, breeze, rained, ranOff, dried;

    Model() {
        owners.add(-1);
        for (int s = 0; s < 100; s++) {
            chains.add(new ArrayList<>(List.of(0)));
            peat[s] = 50;
            wet[s] = 40;
        }
        for (int p = 0; p < 12; p++) {
            heirs.put(p, new ArrayList<>());
        }
    }

    private static void index(boolean... due) {
        for (boolean each : due) {
            if (!each) {
                throw new IndexOutOfBoundsException();
            }
        }
    }

    private static void argument(boolean due) {
        if (!due) {
            throw new IllegalArgumentException();
        }
    }

    private static void state(boolean due) {
        if (!due) {
            throw new IllegalStateException();
        }
    }

    private static boolean person(int p) {
        return 0 <= p && p < 12;
    }

    private static boolean place(int s) {
        return 0 <= s && s < 100;
    }

    private boolean land(int p) {
        return 0 <= p && p < owners.size();
    }

    private int real(int p) {
        return mergedInto.containsKey(p) ? real(mergedInto.get(p)) : p;
    }

    private int at(int s) {
        List<Integer> chain = chains.get(s);
        return chain.get(chain.size() - 1);
    }

    private static boolean field(int from, int to) {
        return from % 10 <= to % 10 && from - from % 10 <= to - to % 10;
    }

    private static List<Integer> squaresOf(int from, int to) {
        List<Integer> all = new ArrayList<>();
        for (int top = from; top - from % 10 <= to; top += 10) {
            for (int s = top; s <= top + to % 10 - from % 10; s++) {
                all.add(s);
            }
        }
        return all;
    }

    private List<Integer> live(int parcel) {
        List<Integer> all = new ArrayList<>();
        for (int i = 0; i < rights.size(); i++) {
            if (rights.get(i)[5] == 0 && rights.get(i)[1] == parcel) {
                all.add(i);
            }
        }
        return all;
    }

    private int find(int kind, int parcel, int holder) {
        for (int i : live(parcel)) {
            if (rights.get(i)[0] == kind && rights.get(i)[2] == holder) {
                return i;
            }
        }
        return -1;
    }

    int area(int parcel) {
        index(land(parcel));
        int count = 0;
        for (int s = 0; s < 100; s++) {
            count += at(s) == real(parcel) ? 1 : 0;
        }
        return count;
    }

    int grant(int parcel, int from, int to, int owner) {
        index(land(parcel), place(from), place(to), person(owner));
        argument(field(from, to));
        int old = real(parcel);
        List<Integer> taken = squaresOf(from, to);
        taken.removeIf(s -> at(s) != old);
        List<Integer> copied = live(old);
        state(!taken.isEmpty() && !dead.contains(owner) && owners.size() < 40 && rights.size() + copied.size() <= 80);
        owners.add(owner);
        for (int s : taken) {
            chains.get(s).add(owners.size() - 1);
        }
        for (int i : copied) {
            int[] r = rights.get(i);
            rights.add(new int[] {r[0], owners.size() - 1, r[2], r[3], i, 0});
        }
        return owners.size() - 1;
    }

    int merge(int parcel, int into) {
        index(land(parcel), land(into));
        int a = real(parcel);
        int b = real(into);
        state(a != b && owners.get(a).equals(owners.get(b)));
        List<Integer> missing = live(a);
        missing.removeIf(i -> find(rights.get(i)[0], b, rights.get(i)[2]) >= 0);
        state(rights.size() + missing.size() <= 80);
        List<Integer> ending = live(a);
        for (int i : missing) {
            int[] r = rights.get(i);
            rights.add(new int[] {r[0], b, r[2], r[3], i, 0});
        }
        for (int i : ending) {
            rights.get(i)[5] = 1;
        }
        for (int p = 0; p < 12; p++) {
            int both = sheep(p, a) + sheep(p, b);
            sheepAt.remove(a * 12 + p);
            sheepAt.put(b * 12 + p, both);
        }
        for (int s = 0; s < 100; s++) {
            if (at(s) == a) {
                chains.get(s).add(b);
            }
        }
        mergedInto.put(a, b);
        return area(b);
    }

    int survey(int holder, int from, int to) {
        index(person(holder), place(from), place(to));
        argument(field(from, to));
        state(!dead.contains(holder) && maps.size() < 12);
        maps.add(new int[] {holder, from, to});
        return maps.size();
    }

    int use(int user, int from, int to) {
        index(person(user), place(from), place(to));
        argument(field(from, to));
        state(!dead.contains(user));
        for (int s : squaresOf(from, to)) {
            if (!users.containsKey(s) || users.get(s)[0] != user) {
                users.put(s, new int[] {user, day});
            }
        }
        return (int) users.values().stream().filter(u -> u[0] == user).count();
    }

    private Set<Integer> mapped(int holder) {
        Set<Integer> all = new HashSet<>();
        maps.stream().filter(m -> m[0] == holder).forEach(m -> all.addAll(squaresOf(m[1], m[2])));
        return all;
    }

    int file(int claimant, boolean isByUse, int from, int to) {
        index(person(claimant), place(from), place(to));
        argument(field(from, to));
        Set<Integer> claimed = mapped(claimant);
        if (isByUse) {
            claimed.clear();
            users.forEach((s, u) -> {
                if (u[0] == claimant && u[1] + 720 <= day) {
                    claimed.add(s);
                }
            });
        }
        claimed.retainAll(squaresOf(from, to));
        state(!dead.contains(claimant) && !claimed.isEmpty() && cases.size() < 16);
        cases.add(new int[] {claimant, 0, 0, -1, 0, 0});
        caseSquares.add(claimed);
        return cases.size() - 1;
    }

    int evidence(int number, boolean isFor, int weight) {
        index(0 <= number && number < cases.size());
        argument(1 <= weight && weight <= 9);
        int[] c = cases.get(number);
        state(c[1] == 0);
        return c[isFor ? 4 : 5] += weight;
    }

    int decide(int number) {
        index(0 <= number && number < cases.size());
        int[] c = cases.get(number);
        state(c[1] == 0);
        return c[4] > c[5] ? give(number) : takeBack(number);
    }

    private int give(int number) {
        int[] c = cases.get(number);
        List<Integer> taken = new ArrayList<>();
        for (int s : caseSquares.get(number)) {
            boolean isHeld = gifts.containsKey(s) && gifts.get(s)[0] != number && cases.get(gifts.get(s)[0])[3] > c[2];
            if (owners.get(at(s)) != c[0] && !isHeld) {
                taken.add(s);
            }
        }
        state(taken.isEmpty() || owners.size() < 40);
        c[1] = 1;
        c[3] = c[2];
        if (!taken.isEmpty()) {
            owners.add(c[0]);
        }
        for (int s : taken) {
            gifts.put(s, new int[] {number, at(s)});
            chains.get(s).add(owners.size() - 1);
        }
        return taken.size();
    }

    private int takeBack(int number) {
        cases.get(number)[1] = 2;
        int moved = 0;
        for (int s = 0; s < 100; s++) {
            if (gifts.containsKey(s) && gifts.get(s)[0] == number) {
                int home = real(gifts.remove(s)[1]);
                if (home != at(s)) {
                    chains.get(s).add(home);
                    moved++;
                }
            }
        }
        return moved;
    }

    int appeal(int number) {
        index(0 <= number && number < cases.size());
        int[] c = cases.get(number);
        state(c[1] != 0 && c[2] < 2 && !dead.contains(c[0]));
        c[1] = 0;
        return ++c[2];
    }

    int register(int kind, int parcel, int holder, int shares) {
        index(0 <= kind && kind <= 2, land(parcel), person(holder));
        argument(kind > 0 || 1 <= shares && shares <= 99);
        state(!dead.contains(holder) && find(kind, real(parcel), holder) < 0 && rights.size() < 80);
        rights.add(new int[] {kind, real(parcel), holder, shares, -1, 0});
        return rights.size() - 1;
    }

    int release(int right) {
        index(0 <= right && right < rights.size());
        int was = rights.get(right)[5];
        rights.get(right)[5] = 1;
        return 1 - was;
    }

    private int worth(int right) {
        int[] r = rights.get(right);
        int free = 2 * area(r[1]);
        for (int i : live(r[1])) {
            if (i < right && rights.get(i)[0] == 0) {
                free -= rights.get(i)[3];
            }
        }
        return r[0] != 0 || free < 0 ? 0 : Math.min(free, r[3]);
    }

    int graze(int keeper, int parcel, int count) {
        index(person(keeper), land(parcel));
        argument(0 <= count && count <= 400);
        int right = find(0, real(parcel), keeper);
        state(count <= (right < 0 ? 0 : worth(right)));
        int before = sheep(keeper, parcel);
        sheepAt.put(real(parcel) * 12 + keeper, count);
        return before;
    }

    int rain(int amount) {
        argument(1 <= amount && amount <= 60);
        int off = 0;
        for (int s = 0; s < 100; s++) {
            wet[s] += amount;
            off += Math.max(0, wet[s] - 100);
            wet[s] = Math.min(100, wet[s]);
        }
        rained += 100 * amount;
        ranOff += off;
        return off;
    }

    int dig(int from, int to) {
        index(place(from), place(to));
        int step = Math.abs(from - to);
        argument(step == 10 || step == 1 && from / 10 == to / 10);
        state(drains.size() < 20 && drains.stream().noneMatch(d -> d[0] == from && d[1] == to));
        drains.add(new int[] {from, to});
        return drains.size();
    }

    int fill(int drain) {
        index(0 <= drain && drain < drains.size());
        drains.remove(drain);
        return drains.size();
    }

    private boolean may(int who, int kind, int s) {
        return !dead.contains(who) && (owners.get(at(s)) == who || find(kind, at(s), who) >= 0);
    }

    int cut(int cutter, int s, int amount) {
        index(person(cutter), place(s));
        argument(1 <= amount && amount <= 20);
        state(may(cutter, 1, s) && peat[s] >= amount);
        return peat[s] -= amount;
    }

    int wind(int now) {
        argument(0 <= now && now <= 9);
        int was = breeze;
        breeze = now;
        return was;
    }

    private boolean burntWithin(int days, int s) {
        return burnt.containsKey(s) && day < burnt.get(s) + days;
    }

    int burn(int burner, int s) {
        index(person(burner), place(s));
        int date = day % 360;
        state(may(burner, 2, s) && breeze < 4 && wet[s] < 31 && 59 < date && date < 151 && !burntWithin(1080, s));
        peat[s] = Math.max(0, peat[s] - 5);
        burnt.put(s, day);
        return peat[s];
    }

    int pass(int days) {
        argument(1 <= days && days <= 200);
        state(day + days <= 20000);
        for (int i = 0; i < days; i++) {
            oneDay();
        }
        return day;
    }

    private void oneDay() {
        day++;
        for (int[] d : drains) {
            int flow = Math.min(wet[d[0]] / 4, 100 - wet[d[1]]);
            wet[d[0]] -= flow;
            wet[d[1]] += flow;
        }
        for (int s = 0; s < 100; s++) {
            if (day % 360 / 120 == 1 && wet[s] > 0) {
                wet[s]--;
                dried++;
            }
        }
        tread();
        if (day % 360 == 0) {
            yearBegins();
        }
    }

    private void tread() {
        int[] flock = new int[40];
        sheepAt.forEach((key, count) -> flock[key / 12] += count);
        for (int s = 0; s < 100; s++) {
            flock[at(s)] -= 2;
        }
        for (int s = 0; s < 100; s++) {
            if (flock[at(s)] > 0 && peat[s] > 0) {
                peat[s]--;
                flock[at(s)] = 0;
            }
        }
    }

    private void yearBegins() {
        for (int s = 0; s < 100; s++) {
            if (wet[s] >= 60 && !burntWithin(360, s) && peat[s] < 200) {
                peat[s]++;
            }
        }
        for (int s = 0; s < 100; s++) {
            int owner = owners.get(at(s));
            if (owner >= 0) {
                wages[owner] += birds(s) + (wet[s] >= 60 ? 2 : 0);
            }
        }
    }

    private int birds(int s) {
        int count = 0;
        for (int t = 0; t < 100; t++) {
            boolean isNear = Math.abs(t % 10 - s % 10) < 2 && Math.abs(t / 10 - s / 10) < 2;
            count += isNear && wet[t] >= 60 ? 1 : 0;
        }
        return burntWithin(360, s) || peat[s] < 10 ? 0 : count;
    }

    int name(int giver, int heir) {
        index(person(giver), person(heir));
        List<Integer> named = heirs.get(giver);
        state(!dead.contains(giver) && !dead.contains(heir) && giver != heir
            && !named.contains(heir) && named.size() < 3);
        named.add(heir);
        return named.size();
    }

    int die(int who) {
        index(person(who));
        state(!dead.contains(who));
        dead.add(who);
        List<Integer> living = new ArrayList<>(heirs.get(who));
        living.removeAll(dead);
        int gone = 0;
        for (int p = 0; p < owners.size(); p++) {
            if (real(p) == p && owners.get(p) == who) {
                owners.set(p, living.isEmpty() ? -1 : living.get(gone++ % living.size()));
            }
        }
        rights.stream().filter(r -> r[2] == who).forEach(r -> r[5] = 1);
        sheepAt.keySet().removeIf(key -> key % 12 == who);
        maps.removeIf(m -> m[0] == who);
        users.values().removeIf(u -> u[0] == who);
        for (int i = 0; i < cases.size(); i++) {
            if (cases.get(i)[0] == who && cases.get(i)[1] == 0) {
                takeBack(i);
            }
        }
        return gone;
    }

    int caseCount() {
        return cases.size();
    }

    int rightCount() {
        return rights.size();
    }

    int drainCount() {
        return drains.size();
    }

    int today() {
        return day;
    }

    int parcels() {
        return owners.size();
    }

    int parcelOf(int s) {
        index(place(s));
        return at(s);
    }

    int chain(int s, int back) {
        index(place(s), back >= 0);
        List<Integer> chain = chains.get(s);
        return back >= chain.size() ? -1 : chain.get(chain.size() - 1 - back);
    }

    int owner(int parcel) {
        index(land(parcel));
        return owners.get(real(parcel));
    }

    int disputed(int s) {
        index(place(s));
        return (int) maps.stream().filter(m -> squaresOf(m[1], m[2]).contains(s)).mapToInt(m -> m[0]).distinct().count();
    }

    int caseAt(int number, int what) {
        index(0 <= number && number < cases.size(), 0 <= what && what <= 3);
        int given = (int) gifts.values().stream().filter(g -> g[0] == number).count();
        int[] told = {cases.get(number)[1], cases.get(number)[2], caseSquares.get(number).size(), given};
        return told[what];
    }

    int rightAt(int right, int what) {
        index(0 <= right && right < rights.size(), 0 <= what && what <= 4);
        int[] r = rights.get(right);
        return r[5] == 1 ? -1 : what == 3 ? worth(right) : r[what];
    }

    int square(int s, int what) {
        index(place(s), 0 <= what && what <= 3);
        int[] told = {peat[s], wet[s], birds(s), users.containsKey(s) ? users.get(s)[0] : -1};
        return told[what];
    }

    int water(int what) {
        index(0 <= what && what <= 3);
        int sum = 0;
        for (int w : wet) {
            sum += w;
        }
        return new int[] {sum, rained, ranOff, dried}[what];
    }

    int paid(int who) {
        index(person(who));
        return wages[who];
    }

    int sheep(int keeper, int parcel) {
        index(person(keeper), land(parcel));
        return sheepAt.getOrDefault(real(parcel) * 12 + keeper, 0);
    }
}
