/**
 * The sentences of "Village", "Houses" and "Rounds", and of the promises 1 to 6, 11 to 15, 19 and 20, that name an
 * edge: each has a method of its own, and stands above it. What is refused there stands in RefusedTest too.
 */
public final class VillageEdgesTest {
    public static void main(String[] args) {
        postOfficeAlone();
        atMostTenPlaces();
        atMostSixteenStreets();
        differentPlaces();
        lengthFrom1To99();
        severalStreets();
        leastSum();
        placeAndItself();
        noDistance();
        bothDistancesTheSame();
        atMostThirtyHouses();
        sideIs0Or1();
        offsetFrom0ToLength();
        sameOffset();
        ranksFrom0();
        rankOfThirty();
        atMostFourRounds();
        limitFrom1To999();
        roundWithoutStreets();
        oneRoundOrNone();
        roundBefore();
        Check.end();
    }

    /** "Creates a village with the post office alone, without rounds." */
    private static void postOfficeAlone() {
        Candleford x = new Candleford();
        Check.due(1, "new: places", () -> x.places());
        Check.due(0, "new: streets", () -> x.streets());
        Check.due(0, "new: houses", () -> x.houses());
        Check.due(0, "new: distance", () -> x.distance(0, 0));
        Check.due(0, "new: distanceByRounds", () -> x.distanceByRounds(0, 0));
        Check.due(0, "new: newDay", () -> x.newDay());
        Check.due(0, "new: vanClock", () -> x.vanClock());
        Check.due(0, "new: late", () -> x.late());
        Check.due(0L, "new: walked", () -> x.walked());
        Check.noSuch("new: hasWalk", () -> x.hasWalk(0));
        Check.noSuch("new: isInTime", () -> x.isInTime(0));
        Check.noSuch("new: deliver", () -> x.deliver(0));
        Candleford other = new Candleford();
        other.addPlace();
        other.addRound(1);
        Check.due(1, "new: places, whatever another object has", () -> x.places());
        Check.noSuch("new: no round, whatever another object has", () -> x.needed(0));
    }

    /** "At most 10 places have numbers from 0 in the order in which they were added"; the 0 is there at first. */
    private static void atMostTenPlaces() {
        Candleford x = new Candleford();
        for (int number = 1; number <= 9; number++) {
            Check.due(number, "addPlace", () -> x.addPlace());
        }
        Check.due(10, "ten places", () -> x.places());
        Check.due(0, "distance of the last place to itself", () -> x.distance(9, 9));
        Check.badState("addPlace, the 11th", () -> x.addPlace());
        Check.badState("addPlace, the 11th again", () -> x.addPlace());
        Check.due(10, "ten places still", () -> x.places());
        Check.noSuch("distance of the place 10", () -> x.distance(10, 10));
        Check.due(0, "addStreet to the last place", () -> x.addStreet(9, 0, 4, true));
        Check.due(1, "addStreet between the last places", () -> x.addStreet(8, 9, 5, false));
        Check.due(9, "distance of the last places", () -> x.distance(0, 8));
        Check.noSuch("addStreet to the place 10", () -> x.addStreet(0, 10, 4, true));
    }

    /** "At most 16 streets have numbers from 0." */
    private static void atMostSixteenStreets() {
        Candleford x = Villages.ofPlaces(2);
        x.addRound(9);
        Check.noSuch("roundOf the street 0 before it is there", () -> x.roundOf(0));
        for (int street = 0; street < 16; street++) {
            int number = street;
            Check.due(number, "addStreet", () -> x.addStreet(0, 1, 20, number == 15));
        }
        Check.due(16, "sixteen streets", () -> x.streets());
        Check.badState("addStreet, the 17th", () -> x.addStreet(0, 1, 20, true));
        Check.badState("addStreet, the 17th, the other way and narrow", () -> x.addStreet(1, 0, 1, false));
        Check.due(16, "sixteen streets still", () -> x.streets());
        Check.due(20, "distance without the 17th", () -> x.distance(0, 1));
        Check.due(20, "distanceByRounds without the 17th", () -> x.distanceByRounds(0, 1));
        Check.due(-1, "roundOf the last street", () -> x.roundOf(15));
        Check.noSuch("roundOf the street 16", () -> x.roundOf(16));
        Check.due(0, "addHouse at the last street", () -> x.addHouse(15, 1, 20));
        Check.noSuch("addHouse at the street 16", () -> x.addHouse(16, 1, 20));
        Check.due(-1, "assign the last street", () -> x.assign(15, 0));
        Check.noSuch("assign the street 16", () -> x.assign(16, 0));
        Check.due(0, "houseAt the last street", () -> x.houseAt(15, 1, 0));
        Check.noSuch("houseAt the street 16", () -> x.houseAt(16, 1, 0));
        Candleford y = Villages.ofPlaces(2);
        y.addRound(99);
        for (int street = 0; street < 16; street++) {
            int length = 20 - street;
            y.addStreet(street % 2, 1 - street % 2, length, true);
            distanceIs(y, length, 0, 1);
        }
        y.addHouse(0, 0, 3);
        y.assign(0, 0);
        y.letters(0, 1);
        Check.due(25, "walkLength by the first street and back by the last", () -> y.walkLength(0));
    }

    /** "A street connects two different places". */
    private static void differentPlaces() {
        Candleford x = Villages.ofPlaces(10);
        for (int place = 0; place < 10; place++) {
            int same = place;
            Check.badArgument("addStreet from " + place + " to itself", () -> x.addStreet(same, same, 1, true));
        }
        Check.due(0, "addStreet to the next place", () -> x.addStreet(8, 9, 1, true));
        Check.due(1, "addStreet back", () -> x.addStreet(9, 8, 1, true));
    }

    /** "has a length from 1 to 99". */
    private static void lengthFrom1To99() {
        for (boolean isWide : new boolean[] {true, false}) {
            Candleford x = Villages.ofPlaces(3);
            for (int length : Check.outside(1, 99)) {
                Check.badArgument("addStreet of the length " + length, () -> x.addStreet(0, 1, length, isWide));
            }
            Check.due(0, "streets then", () -> x.streets());
            Check.due(-1, "distance then", () -> x.distance(0, 1));
            Check.due(-1, "distanceByRounds then", () -> x.distanceByRounds(0, 1));
            Check.due(0, "addStreet of the greatest length", () -> x.addStreet(0, 1, 99, isWide));
            Check.due(1, "addStreet of the least length", () -> x.addStreet(1, 2, 1, isWide));
            Check.due(99, "distance over the greatest length", () -> x.distance(0, 1));
            Check.due(1, "distance over the least length", () -> x.distance(2, 1));
            Check.due(100, "distance over both", () -> x.distance(0, 2));
        }
    }

    /** "Several streets may connect the same places." The distance goes along the shortest one. */
    private static void severalStreets() {
        Candleford x = Villages.ofPlaces(2);
        int[] lengths = {7, 9, 7, 6, 8};
        int[] least = {7, 7, 7, 6, 6};
        for (int i = 0; i < lengths.length; i++) {
            int street = i;
            int first = i % 2;
            Check.due(street, "addStreet", () -> x.addStreet(first, 1 - first, lengths[street], street > 2));
            Check.due(least[i], "distance over several", () -> x.distance(0, 1));
            Check.due(least[i], "distance back over several", () -> x.distance(1, 0));
            Check.due(least[i], "distanceByRounds over several", () -> x.distanceByRounds(0, 1));
            Check.due(least[i], "distanceByRounds back over several", () -> x.distanceByRounds(1, 0));
        }
    }

    /** "The distance of two places is the least sum of the lengths of streets that lead from the one to the other". */
    private static void leastSum() {
        Candleford x = Villages.ofLongRow();
        distanceIs(x, 891, 0, 9);
        x.addStreet(9, 0, 99, true);
        distanceIs(x, 99, 0, 9);
        distanceIs(x, 198, 8, 0);
        distanceIs(x, 495, 0, 5);
        distanceIs(x, 495, 9, 4);
        x.addStreet(2, 0, 99, false);
        distanceIs(x, 99, 0, 2);
        distanceIs(x, 396, 5, 0);
        Candleford y = Villages.ofPlaces(3);
        y.addStreet(0, 1, 10, true);
        y.addStreet(1, 2, 10, true);
        y.addStreet(0, 2, 21, true);
        distanceIs(y, 20, 0, 2);
        y.addStreet(0, 2, 20, true);
        distanceIs(y, 20, 0, 2);
        y.addStreet(2, 0, 19, true);
        distanceIs(y, 19, 0, 2);
        y.addStreet(2, 0, 1, true);
        distanceIs(y, 1, 0, 2);
        distanceIs(y, 10, 0, 1);
        y.addStreet(1, 2, 1, true);
        distanceIs(y, 2, 0, 1);
    }

    private static void distanceIs(Candleford x, int due, int one, int other) {
        Check.due(due, "distance of " + one + " and " + other, () -> x.distance(one, other));
        Check.due(due, "distance of " + other + " and " + one, () -> x.distance(other, one));
        Check.due(due, "distanceByRounds of " + one + " and " + other, () -> x.distanceByRounds(one, other));
        Check.due(due, "distanceByRounds of " + other + " and " + one, () -> x.distanceByRounds(other, one));
    }

    /** "0 for a place and itself". */
    private static void placeAndItself() {
        Candleford x = Villages.ofPlaces(10);
        x.addStreet(0, 1, 1, true);
        x.addStreet(8, 9, 1, false);
        for (int place = 0; place < 10; place++) {
            distanceIs(x, 0, place, place);
        }
    }

    /** "two places may have no distance": -1, until a street leads from the one to the other. */
    private static void noDistance() {
        Candleford x = Villages.ofPlaces(10);
        x.addStreet(0, 1, 99, true);
        x.addStreet(8, 9, 99, true);
        distanceIs(x, -1, 0, 9);
        distanceIs(x, -1, 1, 8);
        distanceIs(x, -1, 2, 3);
        distanceIs(x, 99, 8, 9);
        x.addStreet(9, 1, 99, false);
        distanceIs(x, 198, 0, 9);
        distanceIs(x, 297, 0, 8);
        distanceIs(x, -1, 0, 7);
        Candleford y = Villages.ofPlaces(2);
        distanceIs(y, -1, 0, 1);
        y.addPlace();
        y.addStreet(0, 1, 1, true);
        distanceIs(y, -1, 0, 2);
        distanceIs(y, -1, 1, 2);
        Check.noSuch("distance of a place that is not there yet", () -> y.distance(0, 3));
        y.addPlace();
        distanceIs(y, -1, 0, 3);
    }

    /** distanceByRounds "Returns the same as distance", in a full village and in one of two halves. */
    private static void bothDistancesTheSame() {
        int[][] halves = new int[16][];
        int[][] whole = new int[16][];
        for (int i = 0; i < 16; i++) {
            halves[i] = new int[] {i % 5, (i * 3 + 1) % 5};
            whole[i] = new int[] {i * 7 % 10, (i * 3 + 1) % 10};
            halves[i][1] = halves[i][0] == halves[i][1] ? (halves[i][0] + 2) % 5 : halves[i][1];
            whole[i][1] = whole[i][0] == whole[i][1] ? (whole[i][0] + 5) % 10 : whole[i][1];
        }
        sameDistances(halves);
        sameDistances(whole);
    }

    private static void sameDistances(int[][] ends) {
        Candleford x = Villages.ofPlaces(10);
        for (int i = 0; i < ends.length; i++) {
            x.addStreet(ends[i][0], ends[i][1], 1 + i * 37 % 99, i % 2 == 0);
        }
        for (int i = 0; i < 10; i++) {
            for (int j = 0; j < 10; j++) {
                int one = i;
                int other = j;
                Check.due(x.distance(i, j), "distanceByRounds as distance", () -> x.distanceByRounds(one, other));
            }
        }
    }

    /** "At most 30 houses have numbers from 0." */
    private static void atMostThirtyHouses() {
        Candleford x = Villages.ofOneStreet(5, true);
        Check.noSuch("lettersOf the house 0 before it is there", () -> x.lettersOf(0));
        for (int house = 0; house < 30; house++) {
            int number = house;
            Check.due(number, "addHouse", () -> x.addHouse(0, 0, number % 6));
        }
        Check.due(30, "thirty houses", () -> x.houses());
        Check.badState("addHouse, the 31st", () -> x.addHouse(0, 0, 0));
        Check.badState("addHouse, the 31st, on the other side", () -> x.addHouse(0, 1, 5));
        Check.due(30, "thirty houses still", () -> x.houses());
        Check.due(1, "letters for the last house", () -> x.letters(29, 1));
        Check.noSuch("letters for the house 30", () -> x.letters(30, 1));
        Check.due(0, "parcel for the last house", () -> x.parcel(29, 1, 1));
        Check.noSuch("parcel for the house 30", () -> x.parcel(30, 1, 1));
        Check.due(1, "lettersOf the last house", () -> x.lettersOf(29));
        Check.noSuch("lettersOf the house 30", () -> x.lettersOf(30));
        Check.due(true, "isDue, the last house", () -> x.isDue(29));
        Check.noSuch("isDue, the house 30", () -> x.isDue(30));
        Check.due(5, "walkTo the last house", () -> x.walkTo(29));
        Check.noSuch("walkTo the house 30", () -> x.walkTo(30));
        Check.badIndex("houseAt, the 31st on the other side", () -> x.houseAt(0, 1, 0));
    }

    /** "on its side 0 or 1". */
    private static void sideIs0Or1() {
        Candleford x = Villages.ofOneStreet(5, true);
        for (int side : Check.outside(0, 1)) {
            Check.badArgument("addHouse on the side " + side, () -> x.addHouse(0, side, 0));
            Check.badArgument("houseAt the side " + side, () -> x.houseAt(0, side, 0));
        }
        Check.due(0, "houses then", () -> x.houses());
        Check.due(0, "addHouse on the side 1", () -> x.addHouse(0, 1, 0));
        Check.due(1, "addHouse on the side 0", () -> x.addHouse(0, 0, 0));
        Check.due(1, "houseAt the side 0", () -> x.houseAt(0, 0, 0));
        Check.due(0, "houseAt the side 1", () -> x.houseAt(0, 1, 0));
    }

    /** "at an offset from its first end, from 0 to the length of the street". */
    private static void offsetFrom0ToLength() {
        Candleford x = Villages.ofPlaces(2);
        int[] lengths = {1, 50, 99};
        for (int street = 0; street < lengths.length; street++) {
            int number = street;
            int length = lengths[street];
            x.addStreet(0, 1, length, street == 1);
            for (int offset : Check.outside(0, length)) {
                Check.badArgument("addHouse at " + offset, () -> x.addHouse(number, 0, offset));
                Check.badArgument("addHouse at " + offset + ", side 1", () -> x.addHouse(number, 1, offset));
            }
            Check.due(2 * street, "addHouse at the length", () -> x.addHouse(number, number % 2, length));
            Check.due(2 * street + 1, "addHouse at 0", () -> x.addHouse(number, number % 2, 0));
            Check.due(2 * street + 1, "houseAt, at 0", () -> x.houseAt(number, number % 2, 0));
            Check.due(2 * street, "houseAt, at the length", () -> x.houseAt(number, number % 2, 1));
        }
    }

    /** "Several houses may have the same offset." Their rank is "by their numbers". */
    private static void sameOffset() {
        Candleford x = Villages.ofOneStreet(9, false);
        int[] offsets = {9, 0, 9, 0, 9, 0};
        for (int offset : offsets) {
            x.addHouse(0, 1, offset);
        }
        x.addHouse(0, 0, 0);
        int[] houses = {1, 3, 5, 0, 2, 4};
        for (int i = 0; i < houses.length; i++) {
            int rank = i;
            Check.due(houses[i], "houseAt, the rank " + i, () -> x.houseAt(0, 1, rank));
        }
        Check.badIndex("houseAt, the rank 6", () -> x.houseAt(0, 1, 6));
    }

    /** "the rank by offsets, .. counted from 0"; "if there is no such rank". */
    private static void ranksFrom0() {
        Candleford x = Villages.ofOneStreet(9, true);
        Check.badIndex("houseAt without houses", () -> x.houseAt(0, 0, 0));
        x.addHouse(0, 1, 5);
        Check.badIndex("houseAt with a house opposite", () -> x.houseAt(0, 0, 0));
        x.addHouse(0, 0, 5);
        Check.due(1, "houseAt, one alone", () -> x.houseAt(0, 0, 0));
        for (int rank : Check.outside(0, 0)) {
            Check.badIndex("houseAt, one alone, the rank " + rank, () -> x.houseAt(0, 0, rank));
        }
        x.addHouse(0, 0, 4);
        x.addHouse(0, 0, 6);
        Check.due(2, "houseAt, an offset before it", () -> x.houseAt(0, 0, 0));
        Check.due(1, "houseAt, it", () -> x.houseAt(0, 0, 1));
        Check.due(3, "houseAt, an offset behind it", () -> x.houseAt(0, 0, 2));
        for (int rank : Check.outside(0, 2)) {
            Check.badIndex("houseAt, three, the rank " + rank, () -> x.houseAt(0, 0, rank));
        }
    }

    private static void rankOfThirty() {
        Candleford x = Villages.ofOneStreet(99, true);
        for (int house = 0; house < 30; house++) {
            x.addHouse(0, 1, 99 - house);
        }
        Check.due(29, "houseAt, the first of thirty", () -> x.houseAt(0, 1, 0));
        Check.due(0, "houseAt, the last of thirty", () -> x.houseAt(0, 1, 29));
        Check.badIndex("houseAt, the rank 30", () -> x.houseAt(0, 1, 30));
    }

    /** "At most 4 rounds have numbers from 0". */
    private static void atMostFourRounds() {
        Candleford x = Villages.ofPlaces(2);
        x.addStreet(0, 1, 5, true);
        for (int round = 0; round < 4; round++) {
            int number = round;
            Check.noSuch("due of a round that is not there yet", () -> x.due(number));
            Check.due(number, "addRound", () -> x.addRound(9));
            Check.due(0, "due of the new round", () -> x.due(number));
        }
        Check.badState("addRound, the 5th", () -> x.addRound(9));
        Check.noSuch("due of the round 4", () -> x.due(4));
        Check.noSuch("assign to the round 4", () -> x.assign(0, 4));
        Check.due(-1, "assign to the last round", () -> x.assign(0, 3));
        Check.due(3, "roundOf a street of the last round", () -> x.roundOf(0));
        Check.due(0, "deliver the last round", () -> x.deliver(3));
        Check.noSuch("deliver the round 4", () -> x.deliver(4));
        Check.due(0, "saving of the last rounds", () -> x.saving(3, 2));
        Check.noSuch("saving of the round 4", () -> x.saving(3, 4));
        Check.due(0, "mergeInto the last round", () -> x.mergeInto(3, 0));
        Check.noSuch("mergeInto the round 4", () -> x.mergeInto(4, 0));
    }

    /** "a round has a limit from 1 to 999". */
    private static void limitFrom1To999() {
        Candleford x = Villages.ofPlaces(2);
        x.addStreet(0, 1, 1, true);
        x.addHouse(0, 0, 0);
        for (int limit : Check.outside(1, 999)) {
            Check.badArgument("addRound with the limit " + limit, () -> x.addRound(limit));
        }
        Check.noSuch("no round then", () -> x.due(0));
        Check.due(0, "addRound with the greatest limit", () -> x.addRound(999));
        Check.due(1, "addRound with the least limit", () -> x.addRound(1));
        x.letters(0, 1);
        x.assign(0, 1);
        Check.due(false, "isInTime, 4 minutes of 1", () -> x.isInTime(1));
        x.assign(0, 0);
        Check.due(true, "isInTime, 4 minutes of 999", () -> x.isInTime(0));
    }

    /** addRound "Adds a round without streets." */
    private static void roundWithoutStreets() {
        Candleford x = Villages.ofPlaces(2);
        x.addStreet(0, 1, 5, true);
        x.addHouse(0, 0, 0);
        x.letters(0, 1);
        x.addRound(1);
        Check.due(-1, "roundOf the street", () -> x.roundOf(0));
        Check.due(0, "due of a round without streets", () -> x.due(0));
        Check.due(0, "needed of a round without streets", () -> x.needed(0));
        Check.due(0, "walkTime of a round without streets", () -> x.walkTime(0));
        Check.due(true, "isInTime of a round without streets", () -> x.isInTime(0));
        Check.due(0, "deliver a round without streets", () -> x.deliver(0));
        Check.due(1, "lettersOf a house of no round", () -> x.lettersOf(0));
    }

    /** "A street belongs to one round or to none, at first to none." */
    private static void oneRoundOrNone() {
        Candleford x = Villages.ofParallelStreets(0, 1);
        x.addStreet(0, 1, 5, true);
        Check.due(-1, "roundOf, at first", () -> x.roundOf(2));
        Check.due(0, "roundOf the first", () -> x.roundOf(0));
        Check.due(1, "roundOf the second", () -> x.roundOf(1));
        x.assign(0, 1);
        Check.due(0, "due of the round that it left", () -> x.due(0));
        Check.due(2, "due of the round to which it came", () -> x.due(1));
        Check.due(-1, "roundOf the third still", () -> x.roundOf(2));
    }

    /** assign "Returns the round to which it belonged, or -1." */
    private static void roundBefore() {
        Candleford x = Villages.ofPlaces(2);
        for (int street = 0; street < 16; street++) {
            x.addStreet(0, 1, 5, true);
        }
        for (int round = 0; round < 4; round++) {
            x.addRound(9);
        }
        for (int street = 0; street < 16; street += 15) {
            int number = street;
            Check.due(-1, "assign, from none", () -> x.assign(number, 0));
            Check.due(0, "assign, from the first", () -> x.assign(number, 3));
            Check.due(3, "assign, from the last to itself", () -> x.assign(number, 3));
            Check.due(3, "assign, from the last", () -> x.assign(number, 0));
            Check.due(0, "roundOf then", () -> x.roundOf(number));
            Check.noSuch("assign to no round", () -> x.assign(number, 4));
            Check.due(0, "roundOf after no round", () -> x.roundOf(number));
        }
        Check.due(-1, "roundOf a street between", () -> x.roundOf(7));
    }
}
