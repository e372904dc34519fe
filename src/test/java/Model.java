import java.util.ArrayList;
import java.util.Arrays;
import java.util.List;
import java.util.NoSuchElementException;

/**
 * The document once more, in the slowest and plainest way: ways by walking all paths, walks by trying all orders.
 * It answers as Candleford does, and shares no idea with it but the words of the document.
 */
final class Model {
    /** A street: first, second, length, 1 if wide, round. */
    private final List<int[]> streets = new ArrayList<>();
    /** A house: street, side, offset, letters. */
    private final List<int[]> houses = new ArrayList<>();
    /** A parcel: house, weight, deadline, 1 if delivered. */
    private final List<int[]> parcels = new ArrayList<>();
    private final List<Integer> limits = new ArrayList<>();
    /** The paths that were sought since the last street was added, as to seek one is slow; an empty one is no path. */
    private int[][][] paths = new int[10][10][];
    private int places = 1;
    private int bag = 5;
    private int clock = 0;
    private int byVan = 0;
    private int late = 0;
    private long walked = 0;

    private static void require(boolean holds, RuntimeException otherwise) {
        if (!holds) {
            throw otherwise;
        }
    }

    private static RuntimeException noSuch() {
        return new NoSuchElementException();
    }

    private static RuntimeException argument() {
        return new IllegalArgumentException();
    }

    private static RuntimeException state() {
        return new IllegalStateException();
    }

    private static RuntimeException index() {
        return new IndexOutOfBoundsException();
    }

    private static RuntimeException unsupported() {
        return new UnsupportedOperationException();
    }

    private static boolean isIndex(int index, int size) {
        return index >= 0 && index < size;
    }

    int addPlace() {
        require(places < 10, state());
        return places++;
    }

    int addStreet(int first, int second, int length, boolean isWide) {
        require(isIndex(first, places) && isIndex(second, places), noSuch());
        require(first != second && length >= 1 && length <= 99, argument());
        require(streets.size() < 16, state());
        streets.add(new int[] {first, second, length, isWide ? 1 : 0, -1});
        paths = new int[10][10][];
        return streets.size() - 1;
    }

    int addHouse(int street, int side, int offset) {
        require(isIndex(street, streets.size()), noSuch());
        require(isIndex(side, 2) && isIndex(offset, streets.get(street)[2] + 1), argument());
        require(houses.size() < 30, state());
        houses.add(new int[] {street, side, offset, 0});
        return houses.size() - 1;
    }

    int addRound(int limit) {
        require(limit >= 1 && limit <= 999, argument());
        require(limits.size() < 4, state());
        limits.add(limit);
        return limits.size() - 1;
    }

    int assign(int street, int round) {
        require(isIndex(street, streets.size()) && isIndex(round, limits.size()), noSuch());
        int before = streets.get(street)[4];
        streets.get(street)[4] = round;
        return before;
    }

    int setBag(int weight) {
        require(weight >= 0 && weight <= 99, argument());
        int before = bag;
        bag = weight;
        return before;
    }

    int letters(int house, int count) {
        require(isIndex(house, houses.size()), noSuch());
        require(count >= 1 && count <= 20, argument());
        require(houses.get(house)[3] + count <= 99, state());
        return houses.get(house)[3] += count;
    }

    int parcel(int house, int weight, int deadline) {
        require(isIndex(house, houses.size()), noSuch());
        require(weight >= 1 && weight <= 99 && deadline >= 1 && deadline <= 999, argument());
        require(parcels.size() < 20, state());
        parcels.add(new int[] {house, weight, deadline, 0});
        return parcels.size() - 1;
    }

    int newDay() {
        int count = 0;
        for (int house = 0; house < houses.size(); house++) {
            count += isDue(house) ? 1 : 0;
        }
        houses.forEach(house -> house[3] = 0);
        parcels.clear();
        clock = 0;
        return count;
    }

    int places() {
        return places;
    }

    int streets() {
        return streets.size();
    }

    int houses() {
        return houses.size();
    }

    int roundOf(int street) {
        require(isIndex(street, streets.size()), noSuch());
        return streets.get(street)[4];
    }

    int houseAt(int street, int side, int rank) {
        require(isIndex(street, streets.size()), noSuch());
        require(isIndex(side, 2), argument());
        List<int[]> there = new ArrayList<>();
        for (int house = 0; house < houses.size(); house++) {
            int[] it = houses.get(house);
            if (it[0] == street && it[1] == side) {
                there.add(new int[] {it[2], house});
            }
        }
        there.sort(Arrays::compare);
        require(isIndex(rank, there.size()), index());
        return there.get(rank)[1];
    }

    int lettersOf(int house) {
        require(isIndex(house, houses.size()), noSuch());
        return houses.get(house)[3];
    }

    private boolean isLightAt(int[] parcel, int house) {
        return parcel[0] == house && parcel[1] <= bag && parcel[3] == 0;
    }

    boolean isDue(int house) {
        require(isIndex(house, houses.size()), noSuch());
        return houses.get(house)[3] > 0 || parcels.stream().anyMatch(parcel -> isLightAt(parcel, house));
    }

    private void checkRound(int round) {
        require(isIndex(round, limits.size()), noSuch());
    }

    /** The houses that are due at the streets of one round, or of two. */
    private List<Integer> dueOf(int one, int other) {
        List<Integer> due = new ArrayList<>();
        for (int house = 0; house < houses.size(); house++) {
            int round = streets.get(houses.get(house)[0])[4];
            if ((round == one || round == other) && isDue(house)) {
                due.add(house);
            }
        }
        return due;
    }

    int due(int round) {
        checkRound(round);
        return dueOf(round, round).size();
    }

    /** The first shortest path in the order of places, null if there is none. */
    private int[] path(int from, int to) {
        if (paths[from][to] == null) {
            int[][] best = {new int[0]};
            int[] least = {Integer.MAX_VALUE};
            seek(new int[] {from}, to, 0, best, least);
            paths[from][to] = best[0];
        }
        return paths[from][to].length == 0 ? null : paths[from][to];
    }

    private void seek(int[] path, int to, int length, int[][] best, int[] least) {
        int place = path[path.length - 1];
        if (place == to) {
            if (length < least[0]) {
                least[0] = length;
                best[0] = path;
            }
            return;
        }
        for (int next = 0; next < places; next++) {
            int step = step(place, next);
            int wanted = next;
            if (step > 0 && Arrays.stream(path).noneMatch(it -> it == wanted)) {
                int[] longer = Arrays.copyOf(path, path.length + 1);
                longer[path.length] = next;
                seek(longer, to, length + step, best, least);
            }
        }
    }

    /** The shortest street between two places, 0 if there is none. */
    private int step(int one, int other) {
        int least = 0;
        for (int[] street : streets) {
            boolean connects = street[0] == one && street[1] == other || street[0] == other && street[1] == one;
            if (connects && (least == 0 || street[2] < least)) {
                least = street[2];
            }
        }
        return least;
    }

    private int wayLength(int from, int to) {
        int[] path = path(from, to);
        if (path == null) {
            return -1;
        }
        int sum = 0;
        for (int i = 1; i < path.length; i++) {
            sum += step(path[i - 1], path[i]);
        }
        return sum;
    }

    int distance(int one, int other) {
        require(isIndex(one, places) && isIndex(other, places), noSuch());
        return wayLength(one, other);
    }

    int distanceByRounds(int one, int other) {
        return distance(one, other);
    }

    /** The passes that are needed, two numbers where either will do. */
    private List<int[]> needs(int one, int other) {
        List<int[]> needs = new ArrayList<>();
        List<Integer> due = dueOf(one, other);
        for (int number = 0; number < streets.size(); number++) {
            boolean[] isSide = new boolean[2];
            for (int house : due) {
                if (houses.get(house)[0] == number) {
                    isSide[houses.get(house)[1]] = true;
                }
            }
            if (streets.get(number)[3] == 0) {
                if (isSide[0] || isSide[1]) {
                    needs.add(new int[] {2 * number, 2 * number + 1});
                }
                continue;
            }
            for (int side = 0; side < 2; side++) {
                if (isSide[side]) {
                    needs.add(new int[] {2 * number + side});
                }
            }
        }
        return needs;
    }

    private int start(int pass) {
        return streets.get(pass / 2)[pass % 2];
    }

    private int end(int pass) {
        return streets.get(pass / 2)[1 - pass % 2];
    }

    private int length(int pass) {
        return streets.get(pass / 2)[2];
    }

    /** The passes of the walk of one round, or of two as one; null if there is none. */
    private int[] passes(int one, int other) {
        List<int[]> needs = needs(one, other);
        if (needs.size() > 8) {
            return null;
        }
        int[][] ways = new int[places][places];
        for (int from = 0; from < places; from++) {
            for (int to = 0; to < places; to++) {
                ways[from][to] = wayLength(from, to);
            }
        }
        int[][] best = new int[1][];
        int[] least = {Integer.MAX_VALUE};
        order(needs, new boolean[needs.size()], new int[0], 0, 0, ways, best, least);
        return best[0];
    }

    private void order(List<int[]> needs, boolean[] isMade, int[] made, int place, int length, int[][] ways,
            int[][] best, int[] least) {
        if (length >= least[0]) {
            return;
        }
        if (made.length == needs.size()) {
            if (ways[place][0] >= 0 && length + ways[place][0] < least[0]) {
                least[0] = length + ways[place][0];
                best[0] = made;
            }
            return;
        }
        for (int i = 0; i < needs.size(); i++) {
            if (isMade[i]) {
                continue;
            }
            for (int pass : needs.get(i)) {
                int way = ways[place][start(pass)];
                if (way >= 0) {
                    isMade[i] = true;
                    int[] more = Arrays.copyOf(made, made.length + 1);
                    more[made.length] = pass;
                    order(needs, isMade, more, end(pass), length + way + length(pass), ways, best, least);
                    isMade[i] = false;
                }
            }
        }
    }

    private int lengthOf(int[] passes) {
        int place = 0;
        int sum = 0;
        for (int pass : passes) {
            sum += wayLength(place, start(pass)) + length(pass);
            place = end(pass);
        }
        return sum + wayLength(place, 0);
    }

    private int[] checkedPasses(int round) {
        checkRound(round);
        int[] passes = passes(round, round);
        require(passes != null, state());
        return passes;
    }

    int needed(int round) {
        checkRound(round);
        return needs(round, round).size();
    }

    boolean hasWalk(int round) {
        checkRound(round);
        return passes(round, round) != null;
    }

    int walkLength(int round) {
        return lengthOf(checkedPasses(round));
    }

    int lengthByTrying(int round) {
        int[] passes = checkedPasses(round);
        require(passes.length <= 5, unsupported());
        return lengthOf(passes);
    }

    int passAt(int round, int index) {
        int[] passes = checkedPasses(round);
        require(isIndex(index, passes.length), index());
        return passes[index];
    }

    private List<Integer> stops(int[] passes) {
        List<Integer> stops = new ArrayList<>(List.of(0));
        int place = 0;
        for (int pass : passes) {
            addWay(stops, place, start(pass));
            place = end(pass);
            stops.add(place);
        }
        addWay(stops, place, 0);
        return stops;
    }

    private void addWay(List<Integer> stops, int from, int to) {
        int[] path = path(from, to);
        for (int i = 1; i < path.length; i++) {
            stops.add(path[i]);
        }
    }

    int walkPlaces(int round) {
        return stops(checkedPasses(round)).size();
    }

    int walkAt(int round, int index) {
        List<Integer> stops = stops(checkedPasses(round));
        require(isIndex(index, stops.size()), index());
        return stops.get(index);
    }

    private int time(int one, int other, int[] passes) {
        List<Integer> due = dueOf(one, other);
        int sum = lengthOf(passes) + 2 * due.size();
        for (int house : due) {
            sum += (int) parcels.stream().filter(parcel -> isLightAt(parcel, house)).count();
        }
        return sum;
    }

    int walkTime(int round) {
        return time(round, round, checkedPasses(round));
    }

    boolean isInTime(int round) {
        checkRound(round);
        int[] passes = passes(round, round);
        return passes != null && time(round, round, passes) <= limits.get(round);
    }

    int walkTo(int house) {
        require(isIndex(house, houses.size()), noSuch());
        int[] it = houses.get(house);
        int round = streets.get(it[0])[4];
        require(isDue(house) && round >= 0, unsupported());
        int place = 0;
        int sum = 0;
        for (int pass : checkedPasses(round)) {
            sum += wayLength(place, start(pass));
            if (pass / 2 == it[0] && (streets.get(it[0])[3] == 0 || pass % 2 == it[1])) {
                return sum + (pass % 2 == 0 ? it[2] : length(pass) - it[2]);
            }
            sum += length(pass);
            place = end(pass);
        }
        throw new AssertionError("no pass goes by the house");
    }

    int deliver(int round) {
        require(isInTime(round), state());
        walked += walkLength(round);
        List<Integer> due = dueOf(round, round);
        for (int house : due) {
            houses.get(house)[3] = 0;
            parcels.stream().filter(parcel -> isLightAt(parcel, house)).forEach(parcel -> parcel[3] = 1);
        }
        return due.size();
    }

    int saving(int one, int other) {
        checkRound(one);
        checkRound(other);
        require(one != other, argument());
        int[] both = passes(one, other);
        require(both != null, state());
        return walkLength(one) + walkLength(other) - lengthOf(both);
    }

    private int checkedMerge(int one, int other) {
        int saved = saving(one, other);
        require(time(one, other, passes(one, other)) <= limits.get(one), state());
        return saved;
    }

    int mergeInto(int one, int other) {
        int saved = checkedMerge(one, other);
        streets.stream().filter(street -> street[4] == other).forEach(street -> street[4] = one);
        return saved;
    }

    int bestMerge() {
        int best = -1;
        int most = 0;
        for (int pair = 0; pair < 16; pair++) {
            int saved = 0;
            try {
                saved = checkedMerge(pair / 4, pair % 4);
            } catch (NoSuchElementException | IllegalArgumentException | IllegalStateException e) {
                continue;
            }
            if (saved > most) {
                most = saved;
                best = pair;
            }
        }
        require(best >= 0, noSuch());
        return best;
    }

    private void checkParcel(int parcel) {
        require(isIndex(parcel, parcels.size()), noSuch());
    }

    char parcelState(int parcel) {
        checkParcel(parcel);
        return parcels.get(parcel)[3] == 1 ? 'd' : 'w';
    }

    boolean isHeavy(int parcel) {
        checkParcel(parcel);
        return parcels.get(parcel)[1] > bag;
    }

    private int[] streetOf(int parcel) {
        return streets.get(houses.get(parcels.get(parcel)[0])[0]);
    }

    int nextParcel() {
        List<int[]> waiting = new ArrayList<>();
        for (int parcel = 0; parcel < parcels.size(); parcel++) {
            int way = wayLength(0, streetOf(parcel)[0]);
            if (isHeavy(parcel) && parcels.get(parcel)[3] == 0) {
                waiting.add(new int[] {parcels.get(parcel)[2], way < 0 ? Integer.MAX_VALUE : way, parcel});
            }
        }
        waiting.sort(Arrays::compare);
        require(!waiting.isEmpty(), noSuch());
        return waiting.get(0)[2];
    }

    int tripOf(int parcel) {
        checkParcel(parcel);
        int way = wayLength(0, streetOf(parcel)[0]);
        require(way >= 0, unsupported());
        int sum = 2 * way + 2 * houses.get(parcels.get(parcel)[0])[2];
        return sum % 3 == 0 ? sum / 3 : sum / 3 + 1;
    }

    boolean dispatch() {
        int parcel = nextParcel();
        int trip = tripOf(parcel);
        clock += trip;
        parcels.get(parcel)[3] = 1;
        byVan++;
        boolean isLate = clock - trip / 2 > parcels.get(parcel)[2];
        late += isLate ? 1 : 0;
        return isLate;
    }

    int vanClock() {
        return clock;
    }

    int late() {
        return late;
    }

    long walked() {
        return walked;
    }

    float lateShare() {
        require(byVan > 0, new ArithmeticException());
        return (float) late / (float) byVan;
    }

    double meanLetters() {
        int sum = 0;
        int count = 0;
        for (int house = 0; house < houses.size(); house++) {
            if (isDue(house)) {
                sum += houses.get(house)[3];
                count++;
            }
        }
        require(count > 0, new ArithmeticException());
        return (double) sum / (double) count;
    }
}
