import java.util.ArrayList;
import java.util.Arrays;
import java.util.NoSuchElementException;

/**
 * A rural postal service: streets with houses on both sides, walking rounds that pass each house with post, parcels
 * that need a van, time limits, and rounds that are merged.
 */
public final class Candleford {
    private static final int MAX_PLACES = 10;
    private static final int MAX_STREETS = 16;
    private static final int MAX_HOUSES = 30;
    private static final int MAX_ROUNDS = 4;
    private static final int MAX_PARCELS = 20;
    private static final int MAX_LENGTH = 99;
    private static final int MAX_LIMIT = 999;
    private static final int MAX_DEADLINE = 999;
    private static final int MAX_WEIGHT = 99;
    private static final int MAX_LETTERS = 99;
    private static final int MAX_POSTED = 20;
    private static final int MAX_PASSES = 8;
    private static final int MAX_TRIED = 5;
    private static final int MINUTES_A_HOUSE = 2;
    private static final int POST_OFFICE = 0;
    private static final int NONE = -1;
    /** Greater than the length of every walk, and small enough for sums of a few. */
    private static final int NO_WAY = 1000000;

    private final ArrayList<Street> streets;
    private final ArrayList<House> houses;
    private final ArrayList<Round> rounds;
    private final ArrayList<Parcel> parcels;
    private final Ways ways;
    private final Walk walk;
    private final Grid pairLengths;
    private int placeCount;
    private int bag;
    private int clock;
    private int vanParcels;
    private int lateParcels;
    private long walkedLength;

    public Candleford() {
        streets = new ArrayList<Street>();
        houses = new ArrayList<House>();
        rounds = new ArrayList<Round>();
        parcels = new ArrayList<Parcel>();
        ways = new Ways();
        walk = new Walk(ways);
        pairLengths = new Grid(MAX_ROUNDS, MAX_ROUNDS);
        placeCount = 1;
        bag = 5;
    }

    public int addPlace() throws IllegalStateException {
        if (placeCount >= MAX_PLACES) {
            throw new IllegalStateException("no more places");
        }
        placeCount++;
        return placeCount - 1;
    }

    public int addStreet(int first, int second, int length, boolean isWide)
            throws NoSuchElementException, IllegalArgumentException, IllegalStateException {
        checkPlace(first);
        checkPlace(second);
        if (first == second || !isFrom(1, MAX_LENGTH, length)) {
            throw new IllegalArgumentException("the ends are the same or the length is out of range");
        }
        if (streets.size() >= MAX_STREETS) {
            throw new IllegalStateException("no more streets");
        }
        Street street = new Street(streets.size(), first, second, length, isWide);
        streets.add(street);
        ways.connect(street);
        return street.number;
    }

    public int addHouse(int street, int side, int offset)
            throws NoSuchElementException, IllegalArgumentException, IllegalStateException {
        Street found = findStreet(street);
        if (!isFrom(0, 1, side) || !isFrom(0, found.length, offset)) {
            throw new IllegalArgumentException("the side or the offset is out of range");
        }
        if (houses.size() >= MAX_HOUSES) {
            throw new IllegalStateException("no more houses");
        }
        House house = new House(houses.size(), found, side, offset);
        houses.add(house);
        return house.number;
    }

    public int addRound(int limit) throws IllegalArgumentException, IllegalStateException {
        if (!isFrom(1, MAX_LIMIT, limit)) {
            throw new IllegalArgumentException("the limit is out of range");
        }
        if (rounds.size() >= MAX_ROUNDS) {
            throw new IllegalStateException("no more rounds");
        }
        rounds.add(new Round(limit));
        return rounds.size() - 1;
    }

    public int assign(int street, int round) throws NoSuchElementException {
        Street found = findStreet(street);
        findRound(round);
        int before = found.round;
        found.round = round;
        return before;
    }

    public int setBag(int weight) throws IllegalArgumentException {
        if (!isFrom(0, MAX_WEIGHT, weight)) {
            throw new IllegalArgumentException("the weight is out of range");
        }
        int before = bag;
        bag = weight;
        return before;
    }

    public int letters(int house, int count)
            throws NoSuchElementException, IllegalArgumentException, IllegalStateException {
        House found = findHouse(house);
        if (!isFrom(1, MAX_POSTED, count)) {
            throw new IllegalArgumentException("the number of letters is out of range");
        }
        if (found.letters + count > MAX_LETTERS) {
            throw new IllegalStateException("too many letters for the house");
        }
        found.letters += count;
        return found.letters;
    }

    public int parcel(int house, int weight, int deadline)
            throws NoSuchElementException, IllegalArgumentException, IllegalStateException {
        House found = findHouse(house);
        if (!isFrom(1, MAX_WEIGHT, weight) || !isFrom(1, MAX_DEADLINE, deadline)) {
            throw new IllegalArgumentException("the weight or the deadline is out of range");
        }
        if (parcels.size() >= MAX_PARCELS) {
            throw new IllegalStateException("no more parcels on this day");
        }
        parcels.add(new Parcel(found, weight, deadline));
        return parcels.size() - 1;
    }

    public int newDay() {
        int count = 0;
        for (int i = 0; i < houses.size(); i++) {
            if (hasPost(houses.get(i))) {
                count++;
            }
        }
        for (int i = 0; i < houses.size(); i++) {
            houses.get(i).letters = 0;
        }
        parcels.clear();
        clock = 0;
        return count;
    }

    public int places() {
        return placeCount;
    }

    public int streets() {
        return streets.size();
    }

    public int houses() {
        return houses.size();
    }

    public int roundOf(int street) throws NoSuchElementException {
        return findStreet(street).round;
    }

    public int houseAt(int street, int side, int rank)
            throws NoSuchElementException, IllegalArgumentException, IndexOutOfBoundsException {
        Street found = findStreet(street);
        if (!isFrom(0, 1, side)) {
            throw new IllegalArgumentException("the side is out of range");
        }
        for (int i = 0; i < houses.size(); i++) {
            House house = houses.get(i);
            if (house.street == found && house.side == side && rankOf(house) == rank) {
                return house.number;
            }
        }
        throw new IndexOutOfBoundsException("no such rank");
    }

    public int lettersOf(int house) throws NoSuchElementException {
        return findHouse(house).letters;
    }

    public boolean isDue(int house) throws NoSuchElementException {
        return hasPost(findHouse(house));
    }

    public int due(int round) throws NoSuchElementException {
        findRound(round);
        return dueHouses(groupOf(round));
    }

    public int distance(int one, int other) throws NoSuchElementException {
        checkPlace(one);
        checkPlace(other);
        return noneIfNoWay(ways.least.at(one, other));
    }

    public int distanceByRounds(int one, int other) throws NoSuchElementException {
        checkPlace(one);
        checkPlace(other);
        return noneIfNoWay(ways.leastByRounds(streets, one, other));
    }

    public int needed(int round) throws NoSuchElementException {
        findRound(round);
        collect(groupOf(round));
        return walk.needs;
    }

    public boolean hasWalk(int round) throws NoSuchElementException {
        findRound(round);
        collect(groupOf(round));
        return walk.isPossible();
    }

    public int walkLength(int round) throws NoSuchElementException, IllegalStateException {
        collectWalk(round);
        return walk.leastLength();
    }

    public int lengthByTrying(int round)
            throws NoSuchElementException, IllegalStateException, UnsupportedOperationException {
        collectWalk(round);
        if (walk.needs > MAX_TRIED) {
            throw new UnsupportedOperationException("too many passes to try all orders");
        }
        return walk.leastLengthByTrying();
    }

    public int passAt(int round, int index)
            throws NoSuchElementException, IllegalStateException, IndexOutOfBoundsException {
        collectWalk(round);
        walk.trace();
        if (index < 0 || index >= walk.made.size()) {
            throw new IndexOutOfBoundsException("no such pass");
        }
        return walk.made.get(index).number;
    }

    public int walkPlaces(int round) throws NoSuchElementException, IllegalStateException {
        collectWalk(round);
        walk.trace();
        return walk.stopCount;
    }

    public int walkAt(int round, int index)
            throws NoSuchElementException, IllegalStateException, IndexOutOfBoundsException {
        collectWalk(round);
        walk.trace();
        if (index < 0 || index >= walk.stopCount || index >= walk.stops.length) {
            throw new IndexOutOfBoundsException("no such place");
        }
        return walk.stops[index];
    }

    public int walkTime(int round) throws NoSuchElementException, IllegalStateException {
        collectWalk(round);
        return walk.leastLength() + stopTime(groupOf(round));
    }

    public boolean isInTime(int round) throws NoSuchElementException {
        int limit = findRound(round).limit;
        int group = groupOf(round);
        return isWithin(limit, lengthOf(group), group);
    }

    public int walkTo(int house) throws NoSuchElementException, UnsupportedOperationException, IllegalStateException {
        House found = findHouse(house);
        if (!hasPost(found) || found.street.round == NONE) {
            throw new UnsupportedOperationException("the house is not due or in no round");
        }
        collectWalk(found.street.round);
        walk.trace();
        return walk.lengthTo(found);
    }

    public int deliver(int round) throws NoSuchElementException, IllegalStateException {
        int limit = findRound(round).limit;
        int group = groupOf(round);
        int length = lengthOf(group);
        if (!isWithin(limit, length, group)) {
            throw new IllegalStateException("the round is not in time");
        }
        int count = dueHouses(group);
        handOver(group);
        walkedLength += length;
        return count;
    }

    public int saving(int one, int other)
            throws NoSuchElementException, IllegalArgumentException, IllegalStateException {
        return checkedSaving(one, other);
    }

    public int mergeInto(int one, int other)
            throws NoSuchElementException, IllegalArgumentException, IllegalStateException {
        int saved = checkedSaving(one, other);
        int group = groupOf(one) | groupOf(other);
        if (!isWithin(findRound(one).limit, lengthOf(group), group)) {
            throw new IllegalStateException("the merged round would not be in time");
        }
        for (int i = 0; i < streets.size(); i++) {
            Street street = streets.get(i);
            if (street.round == other) {
                street.round = one;
            }
        }
        return saved;
    }

    public int bestMerge() throws NoSuchElementException {
        measurePairs();
        int best = NONE;
        int mostSaved = 0;
        for (int one = 0; one < rounds.size(); one++) {
            int limit = rounds.get(one).limit;
            for (int other = 0; other < rounds.size(); other++) {
                int saved = one == other ? 0 : savedWithin(limit, one, other);
                if (saved > mostSaved) {
                    mostSaved = saved;
                    best = MAX_ROUNDS * one + other;
                }
            }
        }
        if (best == NONE) {
            throw new NoSuchElementException("no merge saves anything");
        }
        return best;
    }

    public char parcelState(int parcel) throws NoSuchElementException {
        return findParcel(parcel).isDelivered ? 'd' : 'w';
    }

    public boolean isHeavy(int parcel) throws NoSuchElementException {
        return findParcel(parcel).weight > bag;
    }

    public int nextParcel() throws NoSuchElementException {
        int next = NONE;
        Parcel best = null;
        for (int i = 0; i < parcels.size(); i++) {
            Parcel parcel = parcels.get(i);
            boolean isForVan = !parcel.isDelivered && parcel.weight > bag;
            if (isForVan && (best == null || comesBefore(parcel, best))) {
                best = parcel;
                next = i;
            }
        }
        if (next == NONE) {
            throw new NoSuchElementException("no heavy parcel waits");
        }
        return next;
    }

    public int tripOf(int parcel) throws NoSuchElementException, UnsupportedOperationException {
        return checkedTrip(findParcel(parcel));
    }

    public boolean dispatch() throws NoSuchElementException, UnsupportedOperationException {
        Parcel parcel = findParcel(nextParcel());
        int trip = checkedTrip(parcel);
        parcel.isDelivered = true;
        clock += trip;
        vanParcels++;
        boolean isLate = clock - trip / 2 > parcel.deadline;
        if (isLate) {
            lateParcels++;
        }
        return isLate;
    }

    public int vanClock() {
        return clock;
    }

    public int late() {
        return lateParcels;
    }

    public long walked() {
        return walkedLength;
    }

    public float lateShare() throws ArithmeticException {
        if (vanParcels == 0) {
            throw new ArithmeticException("the van has delivered none");
        }
        return (float) lateParcels / (float) vanParcels;
    }

    public double meanLetters() throws ArithmeticException {
        int sum = 0;
        int count = 0;
        for (int i = 0; i < houses.size(); i++) {
            House house = houses.get(i);
            if (hasPost(house)) {
                sum += house.letters;
                count++;
            }
        }
        if (count == 0) {
            throw new ArithmeticException("no house is due");
        }
        return (double) sum / (double) count;
    }

    private static boolean isFrom(int least, int greatest, int value) {
        return value >= least && value <= greatest;
    }

    private static int noneIfNoWay(int length) {
        return length < NO_WAY ? length : NONE;
    }

    private void checkPlace(int place) {
        if (place < 0 || place >= placeCount) {
            throw new NoSuchElementException("no such place");
        }
    }

    private Street findStreet(int number) {
        if (number < 0 || number >= streets.size()) {
            throw new NoSuchElementException("no such street");
        }
        return streets.get(number);
    }

    private House findHouse(int number) {
        if (number < 0 || number >= houses.size()) {
            throw new NoSuchElementException("no such house");
        }
        return houses.get(number);
    }

    private Round findRound(int number) {
        if (number < 0 || number >= rounds.size()) {
            throw new NoSuchElementException("no such round");
        }
        return rounds.get(number);
    }

    private Parcel findParcel(int number) {
        if (number < 0 || number >= parcels.size()) {
            throw new NoSuchElementException("no such parcel");
        }
        return parcels.get(number);
    }

    /** How many houses on the same side come before a house, by offsets, then by numbers. */
    private int rankOf(House house) {
        int rank = 0;
        for (int i = 0; i < houses.size(); i++) {
            House mate = houses.get(i);
            boolean isLower = mate.offset == house.offset && mate.number < house.number;
            if (mate.street == house.street && mate.side == house.side && (mate.offset < house.offset || isLower)) {
                rank++;
            }
        }
        return rank;
    }

    private boolean isLight(Parcel parcel) {
        return !parcel.isDelivered && parcel.weight <= bag;
    }

    private boolean hasPost(House house) {
        if (house.letters > 0) {
            return true;
        }
        for (int i = 0; i < parcels.size(); i++) {
            Parcel parcel = parcels.get(i);
            if (parcel.house == house && isLight(parcel)) {
                return true;
            }
        }
        return false;
    }

    /** A group is a set of rounds, a bit for each, so that two rounds can be walked as one before they are merged. */
    private static int groupOf(int round) {
        return 1 << round;
    }

    private static boolean isIn(Street street, int group) {
        return street.round != NONE && (group & groupOf(street.round)) != 0;
    }

    private int dueHouses(int group) {
        int count = 0;
        for (int i = 0; i < houses.size(); i++) {
            House house = houses.get(i);
            if (isIn(house.street, group) && hasPost(house)) {
                count++;
            }
        }
        return count;
    }

    private int lightParcels(int group) {
        int count = 0;
        for (int i = 0; i < parcels.size(); i++) {
            Parcel parcel = parcels.get(i);
            if (isIn(parcel.house.street, group) && isLight(parcel)) {
                count++;
            }
        }
        return count;
    }

    private int stopTime(int group) {
        return MINUTES_A_HOUSE * dueHouses(group) + lightParcels(group);
    }

    private boolean isWithin(int limit, int length, int group) {
        return length != NONE && length + stopTime(group) <= limit;
    }

    private void handOver(int group) {
        for (int i = 0; i < parcels.size(); i++) {
            Parcel parcel = parcels.get(i);
            if (isIn(parcel.house.street, group) && isLight(parcel)) {
                parcel.isDelivered = true;
            }
        }
        for (int i = 0; i < houses.size(); i++) {
            House house = houses.get(i);
            if (isIn(house.street, group)) {
                house.letters = 0;
            }
        }
    }

    /** The sides of a street that have a house that is due, a bit for each. */
    private int dueSides(Street street) {
        int sides = 0;
        for (int i = 0; i < houses.size(); i++) {
            House house = houses.get(i);
            if (house.street == street && hasPost(house)) {
                sides |= 1 << house.side;
            }
        }
        return sides;
    }

    /** Streets come in the order of their numbers: the walk relies on passes in this order. */
    private void collect(int group) {
        walk.clear();
        for (int i = 0; i < streets.size(); i++) {
            Street street = streets.get(i);
            if (isIn(street, group)) {
                walk.addNeeds(street, dueSides(street));
            }
        }
    }

    private void collectWalk(int round) {
        findRound(round);
        collect(groupOf(round));
        if (!walk.isPossible()) {
            throw new IllegalStateException("the round has no walk");
        }
    }

    private int lengthOf(int group) {
        collect(group);
        return walk.isPossible() ? walk.leastLength() : NONE;
    }

    private int checkedSaving(int one, int other) {
        findRound(one);
        findRound(other);
        if (one == other) {
            throw new IllegalArgumentException("both rounds are the same");
        }
        int ofOne = lengthOf(groupOf(one));
        int ofOther = lengthOf(groupOf(other));
        int ofBoth = lengthOf(groupOf(one) | groupOf(other));
        if (ofOne == NONE || ofOther == NONE || ofBoth == NONE) {
            throw new IllegalStateException("one of the rounds has no walk");
        }
        return ofOne + ofOther - ofBoth;
    }

    /** Measures each pair once, and each round as a pair with itself, because a measure is dear. */
    private void measurePairs() {
        for (int one = 0; one < rounds.size(); one++) {
            for (int other = one; other < rounds.size(); other++) {
                int length = lengthOf(groupOf(one) | groupOf(other));
                pairLengths.put(one, other, length);
                pairLengths.put(other, one, length);
            }
        }
    }

    /** What is saved by a merge, 0 if the rounds can't be merged. */
    private int savedWithin(int limit, int one, int other) {
        int group = groupOf(one) | groupOf(other);
        int ofOne = pairLengths.at(one, one);
        int ofOther = pairLengths.at(other, other);
        int ofBoth = pairLengths.at(one, other);
        if (ofOne == NONE || ofOther == NONE || !isWithin(limit, ofBoth, group)) {
            return 0;
        }
        return ofOne + ofOther - ofBoth;
    }

    private int wayTo(Parcel parcel) {
        return ways.least.at(POST_OFFICE, parcel.house.street.first);
    }

    private boolean comesBefore(Parcel one, Parcel other) {
        if (one.deadline != other.deadline) {
            return one.deadline < other.deadline;
        }
        return wayTo(one) < wayTo(other);
    }

    private int checkedTrip(Parcel parcel) {
        int way = wayTo(parcel);
        if (way >= NO_WAY) {
            throw new UnsupportedOperationException("no way leads to the street");
        }
        return (2 * way + 2 * parcel.house.offset + 2) / 3;
    }

    /** One direction of a street. What is not final belongs to the walk that was collected last. */
    static final class Pass {
        final int number;
        final int from;
        final int to;
        final int length;
        /** The bit of the need that this pass fulfils. */
        int need;
        /** What the walk has behind it when it begins this pass. */
        int begun;

        Pass(int number, int from, int to, int length) {
            this.number = number;
            this.from = from;
            this.to = to;
            this.length = length;
        }

        boolean isForward() {
            return (number & 1) == 0;
        }

        boolean goesBy(House house) {
            boolean isOnSide = !house.street.isWide || house.side == (number & 1);
            return isOnSide && number >> 1 == house.street.number;
        }

        int lengthTo(House house) {
            return isForward() ? house.offset : length - house.offset;
        }
    }

    static final class Street {
        final int number;
        final int first;
        final int length;
        final boolean isWide;
        final Pass forward;
        final Pass backward;
        int round;

        Street(int number, int first, int second, int length, boolean isWide) {
            this.number = number;
            this.first = first;
            this.length = length;
            this.isWide = isWide;
            forward = new Pass(2 * number, first, second, length);
            backward = new Pass(2 * number + 1, second, first, length);
            round = NONE;
        }
    }

    static final class House {
        final int number;
        final Street street;
        final int side;
        final int offset;
        int letters;

        House(int number, Street street, int side, int offset) {
            this.number = number;
            this.street = street;
            this.side = side;
            this.offset = offset;
        }
    }

    static final class Round {
        final int limit;

        Round(int limit) {
            this.limit = limit;
        }
    }

    static final class Parcel {
        final House house;
        final int weight;
        final int deadline;
        boolean isDelivered;

        Parcel(House house, int weight, int deadline) {
            this.house = house;
            this.weight = weight;
            this.deadline = deadline;
        }
    }

    /** A table of lengths, at first without any way. It looks at each index, so that none is used that is outside. */
    static final class Grid {
        private final int rows;
        private final int columns;
        private final int[] cells;

        Grid(int rows, int columns) {
            this.rows = rows;
            this.columns = columns;
            cells = new int[Math.max(0, rows * columns)];
            Arrays.fill(cells, NO_WAY);
        }

        int at(int row, int column) {
            if (row < 0 || row >= rows || column < 0 || column >= columns) {
                return NO_WAY;
            }
            return cells[row * columns + column];
        }

        void put(int row, int column, int length) {
            if (row >= 0 && row < rows && column >= 0 && column < columns) {
                cells[row * columns + column] = length;
            }
        }

        void clearRow(int row) {
            for (int column = 0; column < columns; column++) {
                put(row, column, NO_WAY);
            }
        }

        /** Puts a length plus the row of another table into a row, where this is less than what stands there. */
        void lowerRow(int row, int length, Grid other, int otherRow) {
            if (row < 0 || row >= rows || otherRow < 0 || otherRow >= other.rows || columns != other.columns) {
                return;
            }
            int cell = row * columns;
            int otherCell = otherRow * columns;
            for (int column = 0; column < columns; column++) {
                int sum = length + other.cells[otherCell + column];
                if (sum < cells[cell + column]) {
                    cells[cell + column] = sum;
                }
            }
        }
    }

    /** The shortest ways between places. */
    static final class Ways {
        /** The least length of one street between two places. */
        private final Grid direct;
        /** The distances, measured anew with each street; as long back as forth. */
        final Grid least;
        private final Grid reached;

        Ways() {
            direct = new Grid(MAX_PLACES, MAX_PLACES);
            least = new Grid(MAX_PLACES, MAX_PLACES);
            reached = new Grid(1, MAX_PLACES);
            for (int place = 0; place < MAX_PLACES; place++) {
                least.put(place, place, 0);
            }
        }

        void connect(Street street) {
            Pass pass = street.forward;
            int length = Math.min(street.length, direct.at(pass.from, pass.to));
            direct.put(pass.from, pass.to, length);
            direct.put(pass.to, pass.from, length);
            for (int start = 0; start < MAX_PLACES; start++) {
                measureFrom(start);
            }
        }

        /** Takes the places in the order of their distances from the start. */
        private void measureFrom(int start) {
            int taken = 0;
            for (int i = 0; i < MAX_PLACES; i++) {
                int place = nearestNotTaken(start, taken);
                if (place == NONE) {
                    return;
                }
                taken |= 1 << place;
                for (int next = 0; next < MAX_PLACES; next++) {
                    int length = least.at(start, place) + direct.at(place, next);
                    if (length < least.at(start, next)) {
                        least.put(start, next, length);
                    }
                }
            }
        }

        private int nearestNotTaken(int start, int taken) {
            int nearest = NONE;
            int length = NO_WAY;
            for (int place = 0; place < MAX_PLACES; place++) {
                if ((taken >> place & 1) == 0 && least.at(start, place) < length) {
                    nearest = place;
                    length = least.at(start, place);
                }
            }
            return nearest;
        }

        /** Goes over all streets until nothing changes; each time but the last, one more place has its distance. */
        int leastByRounds(ArrayList<Street> streets, int one, int other) {
            for (int place = 0; place < MAX_PLACES; place++) {
                reached.put(0, place, place == one ? 0 : NO_WAY);
            }
            boolean isChanged = true;
            for (int i = 0; isChanged && i < MAX_PLACES; i++) {
                isChanged = false;
                for (int number = 0; number < streets.size(); number++) {
                    Street street = streets.get(number);
                    if (reachBy(street.forward) || reachBy(street.backward)) {
                        isChanged = true;
                    }
                }
            }
            return reached.at(0, other);
        }

        private boolean reachBy(Pass pass) {
            int length = reached.at(0, pass.from) + pass.length;
            if (length >= reached.at(0, pass.to)) {
                return false;
            }
            reached.put(0, pass.to, length);
            return true;
        }

        /** The lowest place that comes next on a shortest way, the goal itself if there is no way. */
        int nextPlace(int place, int goal) {
            for (int next = 0; next < MAX_PLACES; next++) {
                if (direct.at(place, next) + least.at(next, goal) == least.at(place, goal)) {
                    return next;
                }
            }
            return goal;
        }
    }

    /** The passes that a group of rounds needs, and the shortest walk that makes them. */
    static final class Walk {
        private final Ways ways;
        /** Every pass that the walk may make, in the order of their numbers. */
        private final ArrayList<Pass> choices;
        /** The least length that remains, by the set of needs that are left and the place. */
        private final Grid rest;
        final ArrayList<Pass> made;
        final int[] stops;
        int stopCount;
        int needs;

        Walk(Ways ways) {
            this.ways = ways;
            choices = new ArrayList<Pass>();
            rest = new Grid(1 << MAX_PASSES, MAX_PLACES);
            made = new ArrayList<Pass>();
            // Each pass, and each of the ways before, between and behind them, comes to less than MAX_PLACES places.
            stops = new int[1 + MAX_PASSES + (MAX_PASSES + 1) * (MAX_PLACES - 1)];
        }

        void clear() {
            choices.clear();
            needs = 0;
        }

        void addNeeds(Street street, int dueSides) {
            boolean isFirstDue = (dueSides & 1) != 0;
            boolean isSecondDue = (dueSides & 2) != 0;
            if (!street.isWide && dueSides != 0) {
                addChoice(street.forward);
                addChoice(street.backward);
                needs++;
            }
            if (street.isWide && isFirstDue) {
                addChoice(street.forward);
                needs++;
            }
            if (street.isWide && isSecondDue) {
                addChoice(street.backward);
                needs++;
            }
        }

        private void addChoice(Pass pass) {
            pass.need = 1 << needs;
            choices.add(pass);
        }

        private int allNeeds() {
            return needs > MAX_PASSES ? 0 : (1 << needs) - 1;
        }

        boolean isPossible() {
            for (int i = 0; i < choices.size(); i++) {
                if (ways.least.at(POST_OFFICE, choices.get(i).from) >= NO_WAY) {
                    return false;
                }
            }
            return needs <= MAX_PASSES;
        }

        /** Only for a walk that is possible, as all that follow. Fills the table a row at a time, as a run is long. */
        int leastLength() {
            rest.clearRow(0);
            rest.lowerRow(0, 0, ways.least, POST_OFFICE);
            for (int left = 1; left <= allNeeds(); left++) {
                rest.clearRow(left);
                for (int i = 0; i < choices.size(); i++) {
                    Pass pass = choices.get(i);
                    if ((left & pass.need) != 0) {
                        rest.lowerRow(left, restWith(pass, left), ways.least, pass.from);
                    }
                }
            }
            return rest.at(allNeeds(), POST_OFFICE);
        }

        /** What remains from the begin of a pass on. */
        private int restWith(Pass pass, int left) {
            return pass.length + rest.at(left & ~pass.need, pass.to);
        }

        int leastLengthByTrying() {
            return triedRest(this, allNeeds(), POST_OFFICE, 0);
        }

        private static int triedRest(Walk walk, int left, int place, int depth) {
            if (left == 0) {
                return walk.ways.least.at(place, POST_OFFICE);
            }
            int best = NO_WAY;
            if (depth >= MAX_TRIED) {
                return best;
            }
            for (int i = 0; i < walk.choices.size(); i++) {
                Pass pass = walk.choices.get(i);
                if ((left & pass.need) != 0) {
                    int way = walk.ways.least.at(place, pass.from) + pass.length;
                    best = Math.min(best, way + triedRest(walk, left & ~pass.need, pass.to, depth + 1));
                }
            }
            return best;
        }

        /** Finds the passes of the walk and the places that it comes to. */
        void trace() {
            int length = leastLength();
            int left = allNeeds();
            int place = POST_OFFICE;
            made.clear();
            stopCount = 0;
            comeTo(POST_OFFICE);
            for (int i = 0; i < needs; i++) {
                Pass pass = bestPass(left, place);
                if (pass == null) {
                    return;
                }
                pass.begun = length - restWith(pass, left);
                goTo(pass.from, place);
                comeTo(pass.to);
                made.add(pass);
                left &= ~pass.need;
                place = pass.to;
            }
            goTo(POST_OFFICE, place);
        }

        /** The first pass in the order of numbers that leads to the least length. */
        private Pass bestPass(int left, int place) {
            for (int i = 0; i < choices.size(); i++) {
                Pass pass = choices.get(i);
                int length = ways.least.at(place, pass.from) + restWith(pass, left);
                if ((left & pass.need) != 0 && length == rest.at(left, place)) {
                    return pass;
                }
            }
            return null;
        }

        private void goTo(int goal, int start) {
            int place = start;
            for (int i = 0; i < MAX_PLACES && place != goal; i++) {
                place = ways.nextPlace(place, goal);
                comeTo(place);
            }
        }

        private void comeTo(int place) {
            if (stopCount < stops.length) {
                stops[stopCount] = place;
                stopCount++;
            }
        }

        int lengthTo(House house) {
            for (int i = 0; i < made.size(); i++) {
                Pass pass = made.get(i);
                if (pass.goesBy(house)) {
                    return pass.begun + pass.lengthTo(house);
                }
            }
            return NONE;
        }
    }
}
