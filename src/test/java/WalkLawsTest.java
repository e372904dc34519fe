import java.util.ArrayList;
import java.util.List;

/**
 * Sentences about walks that say how the answers of several calls hang together, for many sets of houses that are due
 * in the same village: each has a method of its own, and stands above it.
 */
public final class WalkLawsTest {
    /** First end, second end, length, and 1 if it is wide. */
    private static final int[][] STREETS =
            {{0, 1, 10, 1}, {1, 2, 20, 0}, {2, 0, 15, 1}, {3, 2, 7, 0}, {3, 4, 9, 1}, {4, 1, 12, 0}};
    private static final int HOUSES = 2 * STREETS.length;
    private static final int PLACES = 5;
    private static final int FROM_THE_ENDS = 2;

    private final Candleford x = Villages.ofPlaces(PLACES);
    private final int dueHouses;
    /** Asked once, so that no object is used for more than 512 calls. */
    private final int[][] distances = new int[PLACES][PLACES];
    private final List<Integer> passes = new ArrayList<>();

    /** All streets are of the round 0; the house 2s is on the side 0 of the street s, the house 2s + 1 on the other. */
    private WalkLawsTest(int dueHouses) {
        this.dueHouses = dueHouses;
        x.addRound(999);
        for (int street = 0; street < STREETS.length; street++) {
            int[] each = STREETS[street];
            x.addStreet(each[0], each[1], each[2], each[3] == 1);
            x.assign(street, 0);
            x.addHouse(street, 0, FROM_THE_ENDS);
            x.addHouse(street, 1, each[2] - FROM_THE_ENDS);
        }
        for (int house = 0; house < HOUSES; house++) {
            if (isDue(house)) {
                x.letters(house, 1);
            }
        }
    }

    public static void main(String[] args) {
        for (int dueHouses = 0; dueHouses < 1 << HOUSES; dueHouses += 13) {
            WalkLawsTest test = new WalkLawsTest(dueHouses);
            test.needed();
            if (test.x.hasWalk(0)) {
                test.ask();
                test.eachPassOnce();
                test.sumOfPassesAndWays();
                test.placesOfPassesAndWays();
                test.eachHouseIsPassed();
                test.time();
            }
        }
        Check.end();
    }

    private boolean isDue(int house) {
        return (dueHouses >> house & 1) == 1;
    }

    private static boolean isWide(int street) {
        return STREETS[street][3] == 1;
    }

    private static int from(int pass) {
        return STREETS[pass / 2][pass % 2];
    }

    private static int to(int pass) {
        return STREETS[pass / 2][1 - pass % 2];
    }

    private static int lengthOf(int pass) {
        return STREETS[pass / 2][2];
    }

    private static int offset(int house) {
        return house % 2 == 0 ? FROM_THE_ENDS : STREETS[house / 2][2] - FROM_THE_ENDS;
    }

    private void ask() {
        for (int one = 0; one < PLACES; one++) {
            for (int other = 0; other < PLACES; other++) {
                distances[one][other] = x.distance(one, other);
            }
        }
        int needed = x.needed(0);
        for (int i = 0; i < needed; i++) {
            passes.add(x.passAt(0, i));
        }
    }

    /**
     * "A round needs one pass for each side of its wide streets that has a house that is due, .. and one pass, in
     * either direction, for each of its narrow streets that has a house that is due."
     */
    private void needed() {
        int needed = 0;
        for (int street = 0; street < STREETS.length; street++) {
            int sides = (isDue(2 * street) ? 1 : 0) + (isDue(2 * street + 1) ? 1 : 0);
            needed += isWide(street) ? sides : Math.min(1, sides);
        }
        Check.due(needed, "needed", () -> x.needed(0));
        Check.due(needed <= 8, "hasWalk", () -> x.hasWalk(0));
    }

    /** "makes each pass that the round needs just once, in some order". */
    private void eachPassOnce() {
        List<Integer> left = new ArrayList<>(passes);
        for (int street = 0; street < STREETS.length; street++) {
            boolean isForward = left.remove((Integer) (2 * street));
            boolean isBackward = left.remove((Integer) (2 * street + 1));
            boolean isNeeded = isDue(2 * street) || isDue(2 * street + 1);
            String what = " over the street " + street;
            if (isWide(street)) {
                Check.due(isDue(2 * street), "forward" + what, () -> isForward);
                Check.due(isDue(2 * street + 1), "backward" + what, () -> isBackward);
            } else {
                Check.due(isNeeded, "once" + what, () -> isForward != isBackward);
            }
        }
        Check.due("[]", "passes that are made once more", () -> left);
    }

    /** "The length of a walk is the sum of the lengths of its passes and ways." */
    private void sumOfPassesAndWays() {
        int place = 0;
        int sum = 0;
        for (int pass : passes) {
            sum += distances[place][from(pass)] + lengthOf(pass);
            place = to(pass);
        }
        int length = sum + distances[place][0];
        Check.due(length, "walkLength", () -> x.walkLength(0));
        if (passes.size() <= 5) {
            Check.due(length, "lengthByTrying", () -> x.lengthByTrying(0));
        }
    }

    /** "the post office and then each place that it comes to, along ways and by passes, one after the other." */
    private void placesOfPassesAndWays() {
        List<Integer> places = new ArrayList<>(List.of(0));
        for (int pass : passes) {
            addWay(places, from(pass));
            places.add(to(pass));
        }
        addWay(places, 0);
        Check.due(places.size(), "walkPlaces", () -> x.walkPlaces(0));
        for (int i = 0; i < places.size(); i++) {
            int index = i;
            Check.due(places.get(i), "walkAt " + i, () -> x.walkAt(0, index));
        }
    }

    /** "the one is taken that goes to the place with the lower number where they first differ." */
    private void addWay(List<Integer> places, int goal) {
        int place = places.get(places.size() - 1);
        while (place != goal) {
            int next = 0;
            while (!isNext(place, next, goal)) {
                next++;
            }
            places.add(next);
            place = next;
        }
    }

    private boolean isNext(int place, int next, int goal) {
        for (int[] street : STREETS) {
            boolean isBetween = street[0] == place && street[1] == next || street[1] == place && street[0] == next;
            if (isBetween && street[2] + distances[next][goal] == distances[place][goal]) {
                return true;
            }
        }
        return false;
    }

    /** "Each house that has post is passed": walkTo tells when, "for the first time by a pass that .. needs". */
    private void eachHouseIsPassed() {
        for (int house = 0; house < HOUSES; house++) {
            int number = house;
            if (!isDue(house)) {
                Check.unsupported("walkTo a house without post", () -> x.walkTo(number));
                continue;
            }
            int place = 0;
            int sum = 0;
            int first = -1;
            for (int pass : passes) {
                sum += distances[place][from(pass)];
                boolean isPassed = pass / 2 == house / 2 && (!isWide(house / 2) || pass % 2 == house % 2);
                if (isPassed && first < 0) {
                    first = sum + (pass % 2 == 0 ? offset(house) : lengthOf(pass) - offset(house));
                }
                sum += lengthOf(pass);
                place = to(pass);
            }
            Check.due(first, "walkTo the house " + house, () -> x.walkTo(number));
            Check.due(true, "the walk passes the house " + house, () -> x.walkTo(number) >= 0);
        }
    }

    /** "The time of a round is the length of its walk, plus 2 for each house that is due", and 1 for each parcel. */
    private void time() {
        int due = Integer.bitCount(dueHouses);
        Check.due(due, "due", () -> x.due(0));
        Check.due(x.walkLength(0) + 2 * due, "walkTime", () -> x.walkTime(0));
        x.parcel(5, 5, 9);
        int dueThen = due + (isDue(5) ? 0 : 1);
        if (x.hasWalk(0)) {
            Check.due(x.walkLength(0) + 2 * dueThen + 1, "walkTime with a parcel", () -> x.walkTime(0));
        }
    }
}
