/**
 * The sentences of "Passes", "Rounds", "Walks" and "Time", and of the promises 21 to 30, that name an edge: each has a
 * method of its own, and stands above it. What is refused there stands in RefusedTest too.
 */
public final class WalkEdgesTest {
    public static void main(String[] args) {
        wholeStreet();
        passesGoFromEndToEnd();
        wideForward();
        wideBackward();
        narrowBothSides();
        numbersOfPasses();
        needsOfWideStreets();
        needsOfNarrowStreets();
        needsOfItsStreets();
        moreThan8Wide();
        moreThan8Narrow();
        moreThan8Mixed();
        noneNeeded();
        beginsAndEndsAtPostOffice();
        eachPassOnce();
        emptyWays();
        leastLength();
        lowerPassFirst();
        lowerPassWhereTheyDiffer();
        noWayOverStreets();
        lowerPlaceFirst();
        lowerPlaceBeforeFewerPlaces();
        waysByShortestStreets();
        placesOfTheLongestWalk();
        triesAtMost5();
        indexOfPasses();
        indexOfPlaces();
        timeOfHouses();
        timeOfParcels();
        timeOfItsStreets();
        timeAtTheLimit();
        timeAtTheLeastLimits();
        walkToAtTheEnds();
        walkToByNeededPasses();
        walkToOnlyDue();
        walkToOfNoRound();
        walkToWithoutWalk();
        eachRoundAnew();
        walkToAnew();
        Check.end();
    }

    private static int[] of(int... numbers) {
        return numbers;
    }

    private static void passesAre(Candleford x, int round, int... passes) {
        Check.due(passes.length, "needed", () -> x.needed(round));
        for (int i = 0; i < passes.length; i++) {
            int index = i;
            Check.due(passes[i], "passAt " + i, () -> x.passAt(round, index));
        }
        Check.badIndex("passAt " + passes.length, () -> x.passAt(round, passes.length));
    }

    private static void placesAre(Candleford x, int round, int... places) {
        Check.due(places.length, "walkPlaces", () -> x.walkPlaces(round));
        for (int i = 0; i < places.length; i++) {
            int index = i;
            Check.due(places[i], "walkAt " + i, () -> x.walkAt(round, index));
        }
        Check.badIndex("walkAt " + places.length, () -> x.walkAt(round, places.length));
    }

    /** Of up to five passes. */
    private static void lengthIs(Candleford x, int round, int length) {
        Check.due(length, "walkLength", () -> x.walkLength(round));
        Check.due(length, "lengthByTrying", () -> x.lengthByTrying(round));
    }

    private static void noWalk(Candleford x, int round) {
        Check.due(false, "hasWalk", () -> x.hasWalk(round));
        Check.due(false, "isInTime", () -> x.isInTime(round));
        Check.badState("walkLength", () -> x.walkLength(round));
        Check.badState("lengthByTrying", () -> x.lengthByTrying(round));
        Check.badState("passAt", () -> x.passAt(round, 0));
        Check.badState("walkPlaces", () -> x.walkPlaces(round));
        Check.badState("walkAt", () -> x.walkAt(round, 0));
        Check.badState("walkTime", () -> x.walkTime(round));
        Check.badState("deliver", () -> x.deliver(round));
    }

    /** Streets of the length 5 from the post office to the place 1, of the round 0, with two houses at each. */
    private static Candleford parallels(boolean... isWide) {
        Candleford x = Villages.ofPlaces(2);
        x.addRound(999);
        for (int street = 0; street < isWide.length; street++) {
            x.addStreet(0, 1, 5, isWide[street]);
            x.addHouse(street, 0, 2);
            x.addHouse(street, 1, 2);
            x.assign(street, 0);
        }
        return x;
    }

    /** "A pass walks along a whole street", wherever the house stands. */
    private static void wholeStreet() {
        for (int offset = 0; offset <= 10; offset += 5) {
            for (boolean isWide : new boolean[] {true, false}) {
                Candleford x = Villages.ofOneStreet(10, isWide);
                x.addHouse(0, 0, offset);
                x.letters(0, 1);
                lengthIs(x, 0, 20);
                placesAre(x, 0, 0, 1, 0);
            }
        }
    }

    /** "A pass forward goes from the first end to the second one, a pass backward the other way." */
    private static void passesGoFromEndToEnd() {
        for (int first = 1; first <= 2; first++) {
            int second = 3 - first;
            Candleford x = Villages.ofPlaces(3);
            x.addStreet(first, second, 9, true);
            x.addStreet(0, 1, 1, true);
            x.addStreet(2, 0, 1, true);
            x.addHouse(0, 0, 2);
            x.addHouse(0, 1, 2);
            x.addRound(99);
            x.assign(0, 0);
            x.letters(0, 1);
            lengthIs(x, 0, 11);
            passesAre(x, 0, 0);
            placesAre(x, 0, 0, first, second, 0);
            Check.due(3, "walkTo, forward", () -> x.walkTo(0));
            x.newDay();
            x.letters(1, 1);
            lengthIs(x, 0, 11);
            passesAre(x, 0, 1);
            placesAre(x, 0, 0, second, first, 0);
            Check.due(8, "walkTo, backward", () -> x.walkTo(1));
        }
    }

    /** "On a wide street, a pass forward passes the houses on the side 0". */
    private static void wideForward() {
        Candleford x = Villages.ofOneStreet(10, true);
        x.addHouse(0, 0, 0);
        x.addHouse(0, 0, 10);
        x.letters(0, 1);
        x.letters(1, 1);
        passesAre(x, 0, 0);
        Check.due(0, "walkTo the first end", () -> x.walkTo(0));
        Check.due(10, "walkTo the second end", () -> x.walkTo(1));
    }

    /** "and a pass backward those on the side 1." */
    private static void wideBackward() {
        Candleford x = Villages.ofOneStreet(10, true);
        x.addHouse(0, 1, 0);
        x.addHouse(0, 1, 10);
        x.letters(0, 1);
        x.letters(1, 1);
        passesAre(x, 0, 1);
        Check.due(20, "walkTo the first end", () -> x.walkTo(0));
        Check.due(10, "walkTo the second end", () -> x.walkTo(1));
    }

    /** "On a narrow street, each pass passes the houses on both sides." */
    private static void narrowBothSides() {
        Candleford x = Villages.ofOneStreet(10, false);
        x.addHouse(0, 0, 3);
        x.addHouse(0, 1, 8);
        x.letters(0, 1);
        x.letters(1, 1);
        passesAre(x, 0, 0);
        Check.due(3, "walkTo the side 0, forward", () -> x.walkTo(0));
        Check.due(8, "walkTo the side 1, forward", () -> x.walkTo(1));
        // Two streets more, and the round goes out by them and back by the narrow one.
        x.addPlace();
        x.addStreet(0, 2, 1, true);
        x.addStreet(2, 1, 1, true);
        for (int street = 1; street <= 2; street++) {
            x.addHouse(street, 0, 0);
            x.assign(street, 0);
            x.letters(1 + street, 1);
        }
        lengthIs(x, 0, 12);
        passesAre(x, 0, 2, 4, 1);
        Check.due(9, "walkTo the side 0, backward", () -> x.walkTo(0));
        Check.due(4, "walkTo the side 1, backward", () -> x.walkTo(1));
    }

    /** "The number of a pass is twice the number of its street, plus 1 if it is backward." */
    private static void numbersOfPasses() {
        Candleford x = Villages.ofPlaces(2);
        x.addRound(999);
        for (int street = 0; street < 16; street++) {
            x.addStreet(0, 1, 5, true);
            x.assign(street, 0);
        }
        for (int street = 0; street < 15; street++) {
            x.addHouse(street, 0, 1);
            x.addHouse(street, 1, 1);
        }
        for (int street = 0; street < 15; street += 14) {
            x.letters(2 * street, 1);
            passesAre(x, 0, 2 * street);
            x.letters(2 * street + 1, 1);
            passesAre(x, 0, 2 * street, 2 * street + 1);
            x.newDay();
        }
        Candleford y = Villages.ofPlaces(2);
        y.addRound(999);
        for (int street = 0; street < 16; street++) {
            y.addStreet(street % 2, 1 - street % 2, 5, street == 15);
        }
        y.assign(15, 0);
        y.addHouse(15, 0, 1);
        y.addHouse(15, 1, 1);
        y.letters(0, 1);
        passesAre(y, 0, 30);
        placesAre(y, 0, 0, 1, 0);
        Check.due(6, "walkTo by the pass 30, from the place 1", () -> y.walkTo(0));
        y.newDay();
        y.letters(1, 1);
        passesAre(y, 0, 31);
        Check.due(4, "walkTo by the pass 31, to the place 1", () -> y.walkTo(1));
    }

    /** "one pass for each side of its wide streets that has a house that is due". */
    private static void needsOfWideStreets() {
        Candleford x = parallels(true);
        x.addHouse(0, 0, 2);
        Check.due(0, "needed, no house due", () -> x.needed(0));
        x.parcel(0, 6, 9);
        Check.due(0, "needed, a heavy parcel", () -> x.needed(0));
        x.letters(0, 1);
        Check.due(1, "needed, a side", () -> x.needed(0));
        x.letters(2, 1);
        Check.due(1, "needed, two houses on a side", () -> x.needed(0));
        x.parcel(1, 5, 9);
        Check.due(2, "needed, both sides", () -> x.needed(0));
        x.deliver(0);
        Check.due(0, "needed after the round", () -> x.needed(0));
        x.letters(1, 1);
        Check.due(1, "needed, the side 1 alone", () -> x.needed(0));
    }

    /** "and one pass, in either direction, for each of its narrow streets that has a house that is due." */
    private static void needsOfNarrowStreets() {
        Candleford x = parallels(false, false);
        Check.due(0, "needed, no house due", () -> x.needed(0));
        x.letters(0, 1);
        Check.due(1, "needed, a side", () -> x.needed(0));
        x.letters(1, 1);
        Check.due(1, "needed, both sides", () -> x.needed(0));
        x.letters(3, 1);
        Check.due(2, "needed, a side of another street", () -> x.needed(0));
        passesAre(x, 0, 0, 3);
        x.newDay();
        x.letters(1, 1);
        Check.due(1, "needed, the side 1 alone", () -> x.needed(0));
    }

    /** "its wide streets", "its narrow streets": those of another round or of none are not needed. */
    private static void needsOfItsStreets() {
        Candleford x = parallels(true, false, true, false);
        for (int house = 0; house < 8; house++) {
            x.letters(house, 1);
        }
        Check.due(6, "needed, two wide and two narrow", () -> x.needed(0));
        for (int round = 1; round <= 3; round++) {
            x.addRound(999);
        }
        x.assign(0, 3);
        x.assign(3, 3);
        Check.due(3, "needed without two", () -> x.needed(0));
        Check.due(3, "needed of the last round", () -> x.needed(3));
        Check.due(0, "needed of a round without streets", () -> x.needed(1));
        x.addStreet(0, 1, 1, true);
        x.addHouse(4, 0, 0);
        x.letters(8, 1);
        Check.due(3, "needed, a house of no round", () -> x.needed(0));
    }

    /** "A round with more than 8 passes that it needs has no walk." */
    private static void moreThan8Wide() {
        Candleford x = parallels(true, true, true, true, true);
        for (int house = 0; house < 8; house++) {
            x.letters(house, 1);
        }
        Check.due(true, "hasWalk, eight", () -> x.hasWalk(0));
        Check.due(40, "walkLength, eight", () -> x.walkLength(0));
        passesAre(x, 0, 0, 1, 2, 3, 4, 5, 6, 7);
        Check.due(56, "walkTime, eight", () -> x.walkTime(0));
        Check.due(38, "walkTo the last, eight", () -> x.walkTo(7));
        x.letters(8, 1);
        Check.due(9, "needed, nine", () -> x.needed(0));
        noWalk(x, 0);
        Check.badState("walkTo, nine", () -> x.walkTo(0));
        x.letters(9, 1);
        Check.due(10, "needed, ten", () -> x.needed(0));
        noWalk(x, 0);
        x.newDay();
        lengthIs(x, 0, 0);
    }

    private static void moreThan8Narrow() {
        Candleford x = Villages.ofPlaces(2);
        x.addRound(999);
        for (int street = 0; street < 16; street++) {
            x.addStreet(0, 1, 1, false);
            x.addHouse(street, street % 2, 0);
            x.assign(street, 0);
        }
        for (int house = 0; house < 16; house++) {
            int needed = house + 1;
            x.letters(house, 1);
            Check.due(needed, "needed", () -> x.needed(0));
            Check.due(needed <= 8, "hasWalk with " + needed, () -> x.hasWalk(0));
            if (needed <= 8) {
                Check.due(needed + needed % 2, "walkLength with " + needed, () -> x.walkLength(0));
            } else {
                noWalk(x, 0);
            }
        }
    }

    private static void moreThan8Mixed() {
        Candleford x = parallels(true, false, true, false, true, false);
        for (int house = 0; house < 10; house++) {
            x.letters(house, 1);
        }
        Check.due(8, "needed, three wide and two narrow", () -> x.needed(0));
        Check.due(true, "hasWalk, eight", () -> x.hasWalk(0));
        x.letters(10, 1);
        Check.due(9, "needed, three wide and three narrow", () -> x.needed(0));
        noWalk(x, 0);
        x.addRound(1);
        x.assign(5, 1);
        Check.due(true, "hasWalk, eight again", () -> x.hasWalk(0));
        Check.due(40, "walkLength, eight again", () -> x.walkLength(0));
    }

    /** "If it needs none, its walk stays at the post office and has the length 0." */
    private static void noneNeeded() {
        Candleford x = Villages.ofPlaces(3);
        x.addStreet(1, 2, 5, true);
        x.addHouse(0, 0, 0);
        x.addRound(1);
        x.addRound(1);
        x.assign(0, 0);
        for (int round = 0; round < 2; round++) {
            int number = round;
            Check.due(true, "hasWalk, none needed", () -> x.hasWalk(number));
            lengthIs(x, round, 0);
            passesAre(x, round);
            placesAre(x, round, 0);
            Check.due(0, "walkTime, none needed", () -> x.walkTime(number));
            Check.due(true, "isInTime, none needed", () -> x.isInTime(number));
            Check.due(0, "deliver, none needed", () -> x.deliver(number));
        }
        x.parcel(0, 99, 1);
        lengthIs(x, 0, 0);
        Check.due(0L, "walked, none needed", () -> x.walked());
    }

    /** "The walk of a round begins and ends at the post office". */
    private static void beginsAndEndsAtPostOffice() {
        Candleford x = Villages.ofPlaces(4);
        x.addStreet(0, 1, 3, true);
        x.addStreet(1, 2, 4, true);
        x.addStreet(2, 3, 5, true);
        x.addHouse(1, 0, 1);
        x.addHouse(1, 1, 1);
        x.addRound(99);
        x.assign(1, 0);
        x.letters(0, 1);
        lengthIs(x, 0, 14);
        passesAre(x, 0, 2);
        placesAre(x, 0, 0, 1, 2, 1, 0);
        Check.due(4, "walkTo", () -> x.walkTo(0));
        x.newDay();
        x.letters(1, 1);
        lengthIs(x, 0, 14);
        passesAre(x, 0, 3);
        Check.due(10, "walkTo, backward", () -> x.walkTo(1));
    }

    /** "and makes each pass that the round needs just once, in some order". */
    private static void eachPassOnce() {
        Candleford x = Villages.ofPlaces(3);
        x.addStreet(1, 2, 10, true);
        x.addStreet(0, 1, 10, true);
        x.addRound(999);
        for (int street = 0; street < 2; street++) {
            x.addHouse(street, 0, 1);
            x.addHouse(street, 1, 1);
            x.assign(street, 0);
        }
        for (int house = 0; house < 4; house++) {
            x.letters(house, 1);
        }
        lengthIs(x, 0, 40);
        passesAre(x, 0, 2, 0, 1, 3);
        placesAre(x, 0, 0, 1, 2, 1, 0);
    }

    /** "along a shortest way, which may be empty": no place comes twice, one after the other. */
    private static void emptyWays() {
        Candleford x = Villages.ofPlaces(3);
        x.addStreet(0, 1, 10, true);
        x.addStreet(1, 2, 10, true);
        x.addStreet(2, 0, 10, true);
        x.addRound(999);
        for (int street = 0; street < 3; street++) {
            x.addHouse(street, 0, 1);
            x.assign(street, 0);
            x.letters(street, 1);
        }
        lengthIs(x, 0, 30);
        passesAre(x, 0, 0, 2, 4);
        placesAre(x, 0, 0, 1, 2, 0);
    }

    /** "The walk of a round is the one with the least length", by one. */
    private static void leastLength() {
        Candleford around = forked(19);
        lengthIs(around, 0, 39);
        passesAre(around, 0, 0, 3);
        placesAre(around, 0, 0, 1, 2, 0);
        Candleford equal = forked(20);
        lengthIs(equal, 0, 40);
        passesAre(equal, 0, 0, 2);
        Candleford back = forked(21);
        lengthIs(back, 0, 40);
        passesAre(back, 0, 0, 2);
        placesAre(back, 0, 0, 1, 0, 2, 0);
    }

    /** Two needed narrow streets of the length 10 from the post office, and a street between their other ends. */
    private static Candleford forked(int between) {
        Candleford x = Villages.ofPlaces(3);
        x.addStreet(0, 1, 10, false);
        x.addStreet(0, 2, 10, false);
        x.addStreet(1, 2, between, true);
        x.addRound(999);
        for (int street = 0; street < 2; street++) {
            x.addHouse(street, 0, 1);
            x.assign(street, 0);
            x.letters(street, 1);
        }
        return x;
    }

    /** "of several, the one that has the pass with the lower number where its passes first differ." */
    private static void lowerPassFirst() {
        Candleford x = Villages.ofPlaces(2);
        x.addStreet(1, 0, 10, false);
        x.addHouse(0, 0, 10);
        x.addRound(99);
        x.assign(0, 0);
        x.letters(0, 1);
        // The pass 1 would come to the house at once; the pass 0 has the lower number.
        passesAre(x, 0, 0);
        Check.due(20, "walkTo by the lower pass", () -> x.walkTo(0));
        Candleford y = Villages.ofPlaces(3);
        y.addStreet(2, 0, 10, false);
        y.addStreet(0, 1, 10, false);
        y.addRound(99);
        for (int street = 0; street < 2; street++) {
            y.addHouse(street, 0, 1);
            y.assign(street, 0);
            y.letters(street, 1);
        }
        passesAre(y, 0, 0, 2);
        placesAre(y, 0, 0, 2, 0, 1, 0);
        // It is the number that tells, not whether a street is wide or narrow.
        for (boolean isFirstWide : new boolean[] {true, false}) {
            Candleford z = Villages.ofPlaces(3);
            z.addStreet(0, 2, 10, isFirstWide);
            z.addStreet(0, 1, 10, !isFirstWide);
            z.addRound(99);
            for (int street = 0; street < 2; street++) {
                z.addHouse(street, 0, 1);
                z.assign(street, 0);
                z.letters(street, 1);
            }
            passesAre(z, 0, 0, 2);
            placesAre(z, 0, 0, 2, 0, 1, 0);
        }
    }

    private static void lowerPassWhereTheyDiffer() {
        Candleford x = parallels(false, false, false);
        for (int house = 0; house < 6; house++) {
            x.letters(house, 1);
        }
        // (0, 2, 5) and (0, 3, 4) are as long, and so are (0, 4, 3) and (2, 1, 4).
        lengthIs(x, 0, 20);
        passesAre(x, 0, 0, 2, 5);
        placesAre(x, 0, 0, 1, 0, 1, 0);
        Candleford y = Villages.ofPlaces(4);
        y.addRound(999);
        int[][] ends = {{0, 3}, {0, 2}, {0, 1}};
        for (int street = 0; street < 3; street++) {
            y.addStreet(ends[street][0], ends[street][1], 10, true);
            y.addHouse(street, 0, 1);
            y.assign(street, 0);
            y.letters(street, 1);
        }
        lengthIs(y, 0, 60);
        passesAre(y, 0, 0, 2, 4);
        placesAre(y, 0, 0, 3, 0, 2, 0, 1, 0);
    }

    /** "If a round needs passes, but no such walk leads over streets, it has no walk." */
    private static void noWayOverStreets() {
        Candleford x = Villages.ofPlaces(4);
        x.addStreet(2, 3, 5, false);
        x.addStreet(0, 1, 5, true);
        x.addHouse(0, 0, 0);
        x.addHouse(1, 0, 0);
        x.addRound(999);
        x.assign(0, 0);
        x.assign(1, 0);
        x.letters(1, 1);
        Check.due(true, "hasWalk, the street without way is not needed", () -> x.hasWalk(0));
        x.letters(0, 1);
        Check.due(2, "needed without way", () -> x.needed(0));
        Check.due(2, "due without way", () -> x.due(0));
        noWalk(x, 0);
        Check.badState("walkTo without way", () -> x.walkTo(0));
        Check.badState("walkTo the other house", () -> x.walkTo(1));
        x.addStreet(3, 1, 1, true);
        lengthIs(x, 0, 22);
        passesAre(x, 0, 2, 0);
        placesAre(x, 0, 0, 1, 3, 2, 3, 1, 0);
    }

    /** "the one is taken that goes to the place with the lower number where they first differ." */
    private static void lowerPlaceFirst() {
        Candleford x = Villages.ofPlaces(10);
        x.addStreet(9, 4, 5, true);
        int[][] ends = {{0, 2}, {2, 3}, {3, 9}, {0, 1}, {1, 8}, {8, 9}};
        for (int[] each : ends) {
            x.addStreet(each[0], each[1], 1, true);
        }
        x.addHouse(0, 0, 0);
        x.addRound(99);
        x.assign(0, 0);
        x.letters(0, 1);
        lengthIs(x, 0, 16);
        placesAre(x, 0, 0, 1, 8, 9, 4, 9, 3, 2, 0);
    }

    private static void lowerPlaceBeforeFewerPlaces() {
        int[][][] streets = {{{0, 1, 1}, {1, 2, 2}, {0, 2, 3}}, {{0, 2, 1}, {2, 1, 2}, {0, 1, 3}}};
        int[][] places = {of(0, 1, 2, 3, 2, 0), of(0, 1, 3, 1, 0)};
        for (int i = 0; i < 2; i++) {
            Candleford x = Villages.ofPlaces(4);
            x.addStreet(2 - i, 3, 7, true);
            for (int[] street : streets[i]) {
                x.addStreet(street[0], street[1], street[2], false);
            }
            x.addHouse(0, 0, 0);
            x.addRound(99);
            x.assign(0, 0);
            x.letters(0, 1);
            lengthIs(x, 0, 20);
            placesAre(x, 0, places[i]);
        }
    }

    /** "Several streets may connect the same places": a way goes along the shortest, a pass along its own. */
    private static void waysByShortestStreets() {
        Candleford x = Villages.ofOneStreet(10, true);
        x.addStreet(0, 1, 3, false);
        x.addStreet(1, 0, 4, true);
        x.addHouse(0, 0, 4);
        x.addHouse(0, 1, 4);
        x.letters(0, 1);
        lengthIs(x, 0, 13);
        Check.due(4, "walkTo, forward", () -> x.walkTo(0));
        x.newDay();
        x.letters(1, 1);
        lengthIs(x, 0, 13);
        Check.due(9, "walkTo, backward", () -> x.walkTo(1));
        placesAre(x, 0, 0, 1, 0);
    }

    /** "The places of a walk are the post office and then each place that it comes to": as many as there can be. */
    private static void placesOfTheLongestWalk() {
        Candleford x = Villages.ofPlaces(10);
        for (int place = 0; place < 9; place++) {
            x.addStreet(place, place + 1, 1, true);
        }
        for (int i = 0; i < 7; i++) {
            x.addStreet(0, 9, 99, true);
        }
        x.addRound(999);
        for (int street = 8; street < 16; street++) {
            x.addHouse(street, 0, 1);
            x.assign(street, 0);
            x.letters(street - 8, 1);
        }
        // Seven passes end at the place 9, and the way back goes over all places; the one from 8 comes after the first.
        Check.due(7 * (99 + 9) + 2, "walkLength, seven long ways", () -> x.walkLength(0));
        passesAre(x, 0, 18, 16, 20, 22, 24, 26, 28, 30);
        Check.due(3 + 7 * 10, "walkPlaces, seven long ways", () -> x.walkPlaces(0));
        Check.due(9, "walkAt, the first pass", () -> x.walkAt(0, 1));
        for (int i = 0; i < 10; i++) {
            int place = i;
            Check.due(place, "walkAt, the first way back", () -> x.walkAt(0, 12 - place));
            Check.due(place, "walkAt, the last way back", () -> x.walkAt(0, 72 - place));
        }
        Check.badIndex("walkAt, behind the last place", () -> x.walkAt(0, 73));
        Check.due(6 * 108 + 2 + 1, "walkTo the last house", () -> x.walkTo(7));
    }

    /** lengthByTrying: "if the round needs more than 5 passes". */
    private static void triesAtMost5() {
        Candleford x = parallels(false, true, true, false);
        int[] lengths = {0, 10, 10, 20, 20, 30, 30};
        int[] houses = {0, 2, 3, 4, 5, 6};
        for (int needed = 0; needed <= 6; needed++) {
            int number = needed;
            Check.due(number, "needed", () -> x.needed(0));
            Check.due(lengths[number], "walkLength with " + number, () -> x.walkLength(0));
            if (needed <= 5) {
                Check.due(lengths[number], "lengthByTrying with " + number, () -> x.lengthByTrying(0));
            } else {
                Check.unsupported("lengthByTrying with " + number, () -> x.lengthByTrying(0));
            }
            if (needed < 6) {
                x.letters(houses[needed], 1);
            }
        }
        Check.due(30, "walkLength after it", () -> x.walkLength(0));
        x.deliver(0);
        Check.due(0, "lengthByTrying after the round", () -> x.lengthByTrying(0));
    }

    /** passAt: "if there is no such index". */
    private static void indexOfPasses() {
        Candleford x = parallels(true, true, true, true);
        for (int needed = 0; needed <= 8; needed++) {
            int last = needed - 1;
            for (int index : Check.outside(0, last)) {
                Check.badIndex("passAt of " + needed + " the pass " + index, () -> x.passAt(0, index));
            }
            if (needed > 0) {
                Check.due(last, "passAt, the last of " + needed, () -> x.passAt(0, last));
                Check.due(0, "passAt, the first of " + needed, () -> x.passAt(0, 0));
            }
            if (needed < 8) {
                x.letters(needed, 1);
            }
        }
    }

    /** walkPlaces: "1 if the round needs no passes"; walkAt: "if there is no such index". */
    private static void indexOfPlaces() {
        Candleford x = parallels(true, true, true, true);
        for (int needed = 0; needed <= 8; needed++) {
            int last = needed + needed % 2;
            Check.due(0, "walkAt, the last place with " + needed, () -> x.walkAt(0, last));
            Check.due(last + 1, "walkPlaces with " + needed, () -> x.walkPlaces(0));
            Check.due(0, "walkAt, the first place with " + needed, () -> x.walkAt(0, 0));
            for (int index : Check.outside(0, last)) {
                Check.badIndex("walkAt with " + needed + " the place " + index, () -> x.walkAt(0, index));
            }
            if (needed < 8) {
                x.letters(needed, 1);
            }
        }
    }

    /** "the length of its walk, plus 2 for each house that is due". */
    private static void timeOfHouses() {
        Candleford x = Villages.ofOneStreet(1, true);
        for (int house = 0; house < 30; house++) {
            x.addHouse(0, 0, house % 2);
        }
        Check.due(0, "walkTime, no house due", () -> x.walkTime(0));
        for (int house = 0; house < 30; house++) {
            int time = 2 + 2 * (house + 1);
            x.letters(house, 1 + house % 20);
            Check.due(time, "walkTime", () -> x.walkTime(0));
        }
    }

    /** "plus 1 for each parcel that is not heavy, not delivered, and for such a house." */
    private static void timeOfParcels() {
        Candleford x = Villages.ofOneStreet(1, true);
        x.addHouse(0, 0, 0);
        x.addHouse(0, 0, 1);
        x.parcel(0, 6, 9);
        Check.due(0, "walkTime, a heavy parcel", () -> x.walkTime(0));
        x.letters(0, 1);
        Check.due(4, "walkTime, a heavy parcel and a letter", () -> x.walkTime(0));
        for (int parcel = 1; parcel < 20; parcel++) {
            int time = 4 + parcel;
            x.parcel(0, 5, 9);
            Check.due(time, "walkTime with a parcel more", () -> x.walkTime(0));
        }
        x.setBag(6);
        Check.due(24, "walkTime, twenty parcels", () -> x.walkTime(0));
        x.setBag(4);
        Check.due(4, "walkTime, twenty heavy parcels", () -> x.walkTime(0));
        x.setBag(5);
        x.deliver(0);
        x.letters(0, 1);
        Check.due(4, "walkTime, nineteen parcels that are delivered", () -> x.walkTime(0));
    }

    /** "and stands at one of its streets". */
    private static void timeOfItsStreets() {
        Candleford x = Villages.ofParallelStreets(0, 1, 0);
        x.addStreet(0, 1, 5, true);
        x.addHouse(3, 0, 0);
        x.letters(3, 1);
        x.parcel(3, 1, 1);
        x.parcel(1, 1, 1);
        Check.due(14, "walkTime of two streets", () -> x.walkTime(0));
        Check.due(13, "walkTime of another round", () -> x.walkTime(1));
        Check.due(0, "walkTime of a round without streets", () -> x.walkTime(2));
        x.assign(3, 2);
        Check.due(13, "walkTime of a round with a street", () -> x.walkTime(2));
    }

    /** "A round is in time if its time is not greater than its limit", at the greatest limit. */
    private static void timeAtTheLimit() {
        Candleford x = Villages.ofPlaces(7);
        for (int place = 0; place < 6; place++) {
            x.addStreet(place, place + 1, place == 5 ? 3 : 99, true);
        }
        x.addRound(999);
        x.addHouse(5, 0, 3);
        x.assign(5, 0);
        x.parcel(0, 5, 1);
        Check.due(999, "walkTime, the greatest limit", () -> x.walkTime(0));
        Check.due(true, "isInTime, 999 of 999", () -> x.isInTime(0));
        x.parcel(0, 5, 1);
        Check.due(1000, "walkTime, one more", () -> x.walkTime(0));
        Check.due(false, "isInTime, 1000 of 999", () -> x.isInTime(0));
        Check.badState("deliver, 1000 of 999", () -> x.deliver(0));
        Check.due("w", "parcelState then", () -> x.parcelState(1));
        x.setBag(4);
        Check.due(true, "isInTime, none needed", () -> x.isInTime(0));
        x.newDay();
        x.parcel(0, 4, 1);
        Check.due(1, "deliver, 999 of 999", () -> x.deliver(0));
        Check.due(996L, "walked, 999 of 999", () -> x.walked());
    }

    private static void timeAtTheLeastLimits() {
        Candleford x = Villages.ofPlaces(2);
        x.addStreet(0, 1, 1, true);
        x.addHouse(0, 0, 0);
        for (int limit = 1; limit <= 4; limit++) {
            x.addRound(limit);
        }
        for (int round = 0; round < 4; round++) {
            int number = round;
            Check.due(true, "isInTime, 0 of the limit", () -> x.isInTime(number));
        }
        x.letters(0, 1);
        for (int round = 0; round < 4; round++) {
            int number = round;
            x.assign(0, round);
            Check.due(4, "walkTime, the least that is not 0", () -> x.walkTime(number));
            Check.due(round == 3, "isInTime, 4 of " + (1 + round), () -> x.isInTime(number));
        }
    }

    /** "the part of the pass up to the house included": from nothing to the whole street. */
    private static void walkToAtTheEnds() {
        for (int side = 0; side < 2; side++) {
            Candleford x = Villages.ofOneStreet(99, true);
            int number = side;
            x.addHouse(0, side, 0);
            x.addHouse(0, side, 1);
            x.addHouse(0, side, 98);
            x.addHouse(0, side, 99);
            int[] offsets = {0, 1, 98, 99};
            for (int house = 0; house < 4; house++) {
                int index = house;
                x.letters(house, 1);
                int due = side == 0 ? offsets[house] : 99 + 99 - offsets[house];
                Check.due(due, "walkTo at " + offsets[house] + ", side " + number, () -> x.walkTo(index));
            }
        }
    }

    /** "until it passes the house for the first time by a pass that the round needs." */
    private static void walkToByNeededPasses() {
        Candleford wide = Villages.ofOneStreet(10, true);
        wide.addHouse(0, 1, 7);
        wide.letters(0, 1);
        Check.due(13, "walkTo, not by the way along the street", () -> wide.walkTo(0));
        wide.addHouse(0, 0, 7);
        wide.letters(1, 1);
        Check.due(13, "walkTo, not by the pass of the other side", () -> wide.walkTo(0));
        Check.due(7, "walkTo the other side", () -> wide.walkTo(1));
        Candleford narrow = Villages.ofPlaces(2);
        narrow.addStreet(1, 0, 10, false);
        narrow.addHouse(0, 0, 4);
        narrow.addRound(99);
        narrow.assign(0, 0);
        narrow.letters(0, 1);
        Check.due(14, "walkTo, not by the way along the narrow street", () -> narrow.walkTo(0));
        Candleford row = Villages.ofPlaces(3);
        row.addStreet(0, 1, 10, false);
        row.addStreet(1, 2, 10, true);
        row.addStreet(2, 0, 1, true);
        row.addHouse(0, 0, 4);
        row.addHouse(1, 1, 3);
        row.addHouse(2, 1, 1);
        row.addRound(99);
        for (int house = 0; house < 3; house++) {
            row.assign(house, 0);
            row.letters(house, 1);
        }
        Check.due(0, "walkTo by the pass that begins at the house", () -> row.walkTo(2));
        Check.due(8, "walkTo by the pass after it", () -> row.walkTo(1));
        Check.due(17, "walkTo by the last pass, backward", () -> row.walkTo(0));
    }

    /** walkTo: "if the house is not due". */
    private static void walkToOnlyDue() {
        Candleford x = Villages.ofOneStreet(10, true);
        x.addHouse(0, 0, 3);
        x.addHouse(0, 0, 3);
        Check.unsupported("walkTo without post", () -> x.walkTo(0));
        x.letters(1, 1);
        Check.unsupported("walkTo, another house is due", () -> x.walkTo(0));
        x.parcel(0, 6, 1);
        Check.unsupported("walkTo, a heavy parcel", () -> x.walkTo(0));
        x.setBag(6);
        Check.due(3, "walkTo, a parcel", () -> x.walkTo(0));
        x.deliver(0);
        Check.unsupported("walkTo after the round", () -> x.walkTo(0));
        x.letters(0, 1);
        Check.due(3, "walkTo, a letter", () -> x.walkTo(0));
        x.newDay();
        Check.unsupported("walkTo on a new day", () -> x.walkTo(0));
    }

    /** "or its street belongs to no round". */
    private static void walkToOfNoRound() {
        Candleford x = Villages.ofPlaces(2);
        x.addStreet(0, 1, 10, true);
        x.addHouse(0, 0, 3);
        x.letters(0, 1);
        Check.unsupported("walkTo without rounds", () -> x.walkTo(0));
        x.addRound(1);
        Check.unsupported("walkTo, a house of no round", () -> x.walkTo(0));
        x.assign(0, 0);
        Check.due(3, "walkTo, not in time", () -> x.walkTo(0));
    }

    /** walkTo: "if the round has no walk". */
    private static void walkToWithoutWalk() {
        Candleford x = Villages.ofPlaces(3);
        x.addStreet(1, 2, 10, true);
        x.addHouse(0, 0, 3);
        x.addHouse(0, 0, 4);
        x.addRound(1);
        x.assign(0, 0);
        x.letters(0, 1);
        Check.badState("walkTo, no way", () -> x.walkTo(0));
        Check.unsupported("walkTo, not due and no way", () -> x.walkTo(1));
        x.addStreet(2, 0, 1, true);
        Check.due(14, "walkTo over a new street", () -> x.walkTo(0));
    }

    /** "The walk of a round": what was asked of another one with passes at the same places does not matter. */
    private static void eachRoundAnew() {
        Candleford x = Villages.ofPlaces(10);
        int[][] streets = {{0, 9, 5}, {9, 0, 5}, {0, 9, 50}, {9, 8, 99}, {8, 0, 60}};
        x.addRound(999);
        x.addRound(999);
        for (int street = 0; street < streets.length; street++) {
            x.addStreet(streets[street][0], streets[street][1], streets[street][2], true);
        }
        for (int street = 0; street < 4; street++) {
            x.addHouse(street, 0, 1);
            x.assign(street, street / 2);
            x.letters(street, 1);
        }
        for (int i = 0; i < 2; i++) {
            lengthIs(x, 0, 10);
            lengthIs(x, 1, 209);
            passesAre(x, 0, 0, 2);
            passesAre(x, 1, 4, 6);
            placesAre(x, 0, 0, 9, 0);
            placesAre(x, 1, 0, 9, 8, 0);
            Check.due(6, "walkTo of the one", () -> x.walkTo(1));
            Check.due(51, "walkTo of the other", () -> x.walkTo(3));
            Check.due(14, "walkTime of the one", () -> x.walkTime(0));
            Check.due(213, "walkTime of the other", () -> x.walkTime(1));
        }
    }

    /** walkTo: "the walk of the round" as it is now: a pass begins earlier or later than when it was asked before. */
    private static void walkToAnew() {
        Candleford x = Villages.ofPlaces(3);
        x.addRound(999);
        x.addRound(999);
        x.addStreet(0, 1, 10, true);
        x.addStreet(0, 2, 20, true);
        for (int street = 0; street < 2; street++) {
            x.addHouse(street, 0, 1);
            x.assign(street, 0);
        }
        x.letters(1, 1);
        for (int i = 0; i < 2; i++) {
            Check.due(1, "walkTo by the first pass", () -> x.walkTo(1));
            x.letters(0, 1);
            Check.due(21, "walkTo by the second pass", () -> x.walkTo(1));
            x.assign(0, 1);
            Check.due(1, "walkTo by the only pass", () -> x.walkTo(1));
            Check.due(1, "walkTo by the only pass of another round", () -> x.walkTo(0));
            x.deliver(1);
            x.assign(0, 0);
        }
    }
}
