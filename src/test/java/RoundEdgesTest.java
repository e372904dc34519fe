/**
 * The sentences of the promises 31 to 34 and 42, of rounds that are made and merged, that name an edge: each has a
 * method of its own, and stands above it. What is refused there stands in RefusedTest too.
 */
public final class RoundEdgesTest {
    public static void main(String[] args) {
        deliverAtTheLimit();
        deliverNotInTime();
        deliverReturns();
        deliverLettersAndParcels();
        deliverItsStreets();
        deliverWithoutWalk();
        walkedSum();
        walkedOfManyDays();
        savingOfLengths();
        savingOfNothing();
        savingWithoutWalk();
        eightTogether();
        mergeMovesStreets();
        mergeReturnsTheSaving();
        mergeAtTheLimit();
        mergeByTheTimeOfBoth();
        mergeAllRounds();
        noPairToMerge();
        savingGreaterThan0();
        lowestAndHighestPair();
        greatestSaving();
        lowestOfSeveral();
        pairsThatCanBeMerged();
        Check.end();
    }

    /** Places in a row 10 apart by wide streets, a street with a letter for each round. */
    private static Candleford row(int... limits) {
        Candleford x = Villages.ofPlaces(1 + limits.length);
        for (int street = 0; street < limits.length; street++) {
            x.addStreet(street, street + 1, 10, true);
            x.addHouse(street, 0, 5);
            x.addRound(limits[street]);
            x.assign(street, street);
            x.letters(street, 1);
        }
        return x;
    }

    /** Two places more, which no way joins to the others, a street between them and a house with a letter there. */
    private static int streetWithoutWay(Candleford x) {
        int place = x.addPlace();
        int street = x.addStreet(place, x.addPlace(), 1, true);
        x.letters(x.addHouse(street, 0, 0), 1);
        return street;
    }

    /** deliver: "if the round is not in time", where a time as great as the limit is in time. */
    private static void deliverAtTheLimit() {
        for (int limit = 21; limit <= 23; limit++) {
            Candleford x = row(limit);
            if (limit < 22) {
                Check.badState("deliver, 22 minutes of " + limit, () -> x.deliver(0));
            } else {
                Check.due(1, "deliver, 22 minutes of " + limit, () -> x.deliver(0));
            }
            Check.due(limit < 22 ? 1 : 0, "lettersOf then", () -> x.lettersOf(0));
            Check.due(limit < 22 ? 0L : 20L, "walked then", () -> x.walked());
        }
    }

    private static void deliverNotInTime() {
        Candleford x = row(24);
        x.parcel(0, 5, 9);
        x.parcel(0, 5, 9);
        x.parcel(0, 6, 9);
        x.setBag(6);
        Check.badState("deliver, 25 minutes of 24", () -> x.deliver(0));
        Check.due("w", "parcelState then", () -> x.parcelState(0));
        Check.due(1, "lettersOf then", () -> x.lettersOf(0));
        Check.due(1, "due then", () -> x.due(0));
        Check.due(0L, "walked then", () -> x.walked());
        x.setBag(5);
        Check.due(1, "deliver, 24 minutes of 24", () -> x.deliver(0));
        Check.due("d", "parcelState after the round", () -> x.parcelState(1));
        Check.due("w", "parcelState of the heavy one after the round", () -> x.parcelState(2));
    }

    /** "Returns the number of houses that were due." */
    private static void deliverReturns() {
        Candleford x = Villages.ofOneStreet(99, true);
        for (int house = 0; house < 30; house++) {
            x.addHouse(0, 0, house);
        }
        Check.due(0, "deliver, none due", () -> x.deliver(0));
        x.parcel(7, 6, 9);
        Check.due(0, "deliver, a heavy parcel", () -> x.deliver(0));
        x.parcel(29, 5, 9);
        x.letters(29, 20);
        Check.due(1, "deliver, one with letters and a parcel", () -> x.deliver(0));
        for (int house = 0; house < 30; house++) {
            x.letters(house, 1);
        }
        Check.due(30, "deliver, thirty", () -> x.deliver(0));
        Check.due(0, "deliver, none due again", () -> x.deliver(0));
        Check.due(396L, "walked, twice along the street and back", () -> x.walked());
    }

    /** "all houses that are due at its streets get their letters and the parcels that are not heavy." */
    private static void deliverLettersAndParcels() {
        Candleford x = Villages.ofOneStreet(10, true);
        x.addHouse(0, 0, 0);
        x.addHouse(0, 1, 10);
        for (int i = 0; i < 5; i++) {
            x.letters(1, i == 0 ? 19 : 20);
        }
        for (int parcel = 0; parcel < 20; parcel++) {
            x.parcel(parcel % 2, 5 + parcel / 18, 9);
        }
        Check.due(2, "deliver, 99 letters and 18 parcels", () -> x.deliver(0));
        Check.due(0, "lettersOf then", () -> x.lettersOf(1));
        for (int parcel = 0; parcel < 20; parcel++) {
            int number = parcel;
            Check.due(parcel < 18 ? "d" : "w", "parcelState of " + parcel, () -> x.parcelState(number));
        }
        Check.due(0, "due then", () -> x.due(0));
        Check.due(18, "nextParcel then", () -> x.nextParcel());
        Check.due(20, "letters again", () -> x.letters(1, 20));
        Check.due(0, "vanClock then", () -> x.vanClock());
        Check.badDivision("lateShare then", () -> x.lateShare());
    }

    private static void deliverItsStreets() {
        Candleford x = row(999, 999, 999, 999);
        x.addStreet(0, 1, 5, true);
        x.addHouse(4, 0, 0);
        x.letters(4, 1);
        x.parcel(4, 1, 9);
        x.parcel(2, 1, 9);
        x.parcel(3, 1, 9);
        Check.due(1, "deliver the last round", () -> x.deliver(3));
        for (int house = 0; house < 5; house++) {
            int number = house;
            Check.due(house == 3 ? 0 : 1, "lettersOf " + house, () -> x.lettersOf(number));
        }
        Check.due("w", "parcelState of no round", () -> x.parcelState(0));
        Check.due("w", "parcelState of another round", () -> x.parcelState(1));
        Check.due("d", "parcelState of the last round", () -> x.parcelState(2));
        Check.due(1, "deliver the first round", () -> x.deliver(0));
        Check.due(1, "lettersOf a house of no round", () -> x.lettersOf(4));
    }

    private static void deliverWithoutWalk() {
        Candleford x = row(999);
        x.assign(streetWithoutWay(x), 0);
        Check.badState("deliver, no way", () -> x.deliver(0));
        Check.due(1, "lettersOf the house with a way", () -> x.lettersOf(0));
        Check.due(0L, "walked then", () -> x.walked());
        Candleford y = Villages.ofParallelStreets(0, 0, 0, 0, 0, 0, 0, 0, 0);
        Check.badState("deliver, nine passes", () -> y.deliver(0));
        y.assign(8, 1);
        Check.due(8, "deliver, eight passes", () -> y.deliver(0));
        Check.due(40L, "walked, eight passes", () -> y.walked());
    }

    /** walked: "the sum of the lengths of all walks of rounds that were made, of all days." */
    private static void walkedSum() {
        Candleford x = row(999, 999);
        Check.due(0L, "walked, none made", () -> x.walked());
        x.walkLength(0);
        x.walkTime(0);
        x.saving(0, 1);
        Check.due(0L, "walked, asked only", () -> x.walked());
        x.deliver(1);
        Check.due(40L, "walked, one made", () -> x.walked());
        x.deliver(1);
        Check.due(40L, "walked, none needed", () -> x.walked());
        x.deliver(0);
        Check.due(60L, "walked, two made", () -> x.walked());
        x.newDay();
        Check.due(60L, "walked on a new day", () -> x.walked());
        x.letters(0, 1);
        x.letters(1, 1);
        x.mergeInto(0, 1);
        Check.due(60L, "walked, merged only", () -> x.walked());
        x.deliver(0);
        Check.due(100L, "walked, both as one", () -> x.walked());
        x.parcel(0, 9, 9);
        x.dispatch();
        Check.due(100L, "walked, not by the van", () -> x.walked());
    }

    /** As much as a short or a char can't hold: 990 on each of a hundred days. */
    private static void walkedOfManyDays() {
        Candleford x = Villages.ofLongRow();
        x.addHouse(4, 0, 0);
        x.addRound(999);
        x.assign(4, 0);
        for (int day = 1; day <= 100; day++) {
            long sum = 990L * day;
            x.letters(0, 1);
            x.deliver(0);
            Check.due(sum, "walked on the day " + day, () -> x.walked());
            x.newDay();
        }
        Check.due(99000L, "walked of a hundred days", () -> x.walked());
    }

    /** "the sum of the lengths of both walks minus the length of the walk that a round with all their streets has". */
    private static void savingOfLengths() {
        Candleford x = row(1, 1, 1, 1);
        int[][] due = {{0, 20, 20, 20}, {20, 0, 40, 40}, {20, 40, 0, 60}, {20, 40, 60, 0}};
        for (int i = 0; i < 4; i++) {
            for (int j = 0; j < 4; j++) {
                int one = i;
                int other = j;
                if (i != j) {
                    Check.due(due[i][j], "saving of " + i + " and " + j, () -> x.saving(one, other));
                }
            }
        }
        Check.due(20, "walkLength after it", () -> x.walkLength(0));
        Check.due(1, "roundOf after it", () -> x.roundOf(1));
    }

    private static void savingOfNothing() {
        Candleford x = Villages.ofPlaces(1);
        x.addRound(1);
        x.addRound(1);
        Check.due(0, "saving of rounds without streets", () -> x.saving(0, 1));
        Check.due(0, "saving of rounds without streets, the other way", () -> x.saving(1, 0));
        Check.due(0, "mergeInto, rounds without streets", () -> x.mergeInto(1, 0));
        Candleford y = row(1, 1);
        y.newDay();
        Check.due(0, "saving without post", () -> y.saving(0, 1));
        y.letters(1, 1);
        Check.due(0, "saving with one walk", () -> y.saving(0, 1));
        y.letters(0, 1);
        Check.due(20, "saving with two walks", () -> y.saving(0, 1));
    }

    /** saving, mergeInto: "if one of the three has no walk". */
    private static void savingWithoutWalk() {
        Candleford x = row(999, 999, 999);
        int street = streetWithoutWay(x);
        for (int round = 0; round < 3; round++) {
            int without = round;
            int one = (round + 1) % 3;
            int other = (round + 2) % 3;
            x.assign(street, round);
            Check.badState("saving, the one has no walk", () -> x.saving(without, one));
            Check.badState("saving, the other has no walk", () -> x.saving(one, without));
            Check.badState("mergeInto, the one has no walk", () -> x.mergeInto(without, one));
            Check.badState("mergeInto, the other has no walk", () -> x.mergeInto(one, without));
            Check.due(20 * (1 + Math.min(one, other)), "saving of the two others", () -> x.saving(one, other));
            Check.due(one, "roundOf after it", () -> x.roundOf(one));
            Check.due(without, "roundOf the street without way", () -> x.roundOf(street));
        }
    }

    /** The walk of both together has at most 8 passes too. */
    private static void eightTogether() {
        Candleford x = Villages.ofParallelStreets(0, 0, 0, 0, 0, 1, 1, 1);
        Check.due(10, "saving, five and three", () -> x.saving(0, 1));
        Check.due(10, "mergeInto, five and three", () -> x.mergeInto(1, 0));
        Check.due(8, "needed then", () -> x.needed(1));
        Candleford y = Villages.ofParallelStreets(0, 0, 0, 0, 0, 1, 1, 1, 1);
        Check.badState("saving, five and four", () -> y.saving(0, 1));
        Check.badState("saving, four and five", () -> y.saving(1, 0));
        Check.badState("mergeInto, five and four", () -> y.mergeInto(0, 1));
        Check.badState("mergeInto, four and five", () -> y.mergeInto(1, 0));
        Check.due(5, "needed after it", () -> y.needed(0));
        Check.due(4, "needed of the other after it", () -> y.needed(1));
        Check.due(0, "saving, eight and none", () -> x.saving(0, 1));
        Candleford z = Villages.ofParallelStreets(0, 0, 0, 0, 0, 0, 0, 0, 1);
        Check.badState("saving, eight and one", () -> z.saving(0, 1));
        Check.due(0, "saving, eight and none", () -> z.saving(0, 2));
        Check.due(0, "mergeInto, none and eight", () -> z.mergeInto(2, 0));
        Check.due(8, "needed, none and eight", () -> z.needed(2));
    }

    /** "Merges two rounds: the streets of the other one go to the one." */
    private static void mergeMovesStreets() {
        Candleford x = Villages.ofPlaces(2);
        for (int street = 0; street < 16; street++) {
            x.addStreet(0, 1, 5, true);
        }
        for (int round = 0; round < 4; round++) {
            x.addRound(9);
        }
        for (int street = 0; street < 15; street++) {
            x.assign(street, street % 4);
        }
        Check.due(0, "mergeInto", () -> x.mergeInto(2, 1));
        for (int street = 0; street < 16; street++) {
            int number = street;
            int due = street == 15 ? -1 : street % 4 == 1 ? 2 : street % 4;
            Check.due(due, "roundOf " + street, () -> x.roundOf(number));
        }
        Check.due(0, "due of the other round", () -> x.due(1));
        Check.due(true, "hasWalk of the other round", () -> x.hasWalk(1));
        Check.due(0, "mergeInto the other round", () -> x.mergeInto(1, 2));
        Check.due(1, "roundOf a street that was of neither", () -> x.roundOf(14));
        Check.due(1, "assign back", () -> x.assign(14, 2));
        Candleford y = Villages.ofPlaces(2);
        y.addRound(9);
        y.addRound(9);
        for (int street = 0; street < 16; street++) {
            y.addStreet(0, 1, 5, true);
            y.assign(street, street % 15 == 0 ? 1 : 0);
        }
        y.mergeInto(0, 1);
        for (int street = 0; street < 16; street++) {
            int number = street;
            Check.due(0, "roundOf " + street + " when all are merged", () -> y.roundOf(number));
        }
        y.mergeInto(1, 0);
        for (int street = 0; street < 16; street++) {
            int number = street;
            Check.due(1, "roundOf " + street + " when all are merged back", () -> y.roundOf(number));
        }
    }

    /** mergeInto "Returns the saving." */
    private static void mergeReturnsTheSaving() {
        Candleford x = row(999, 999, 999);
        Check.due(40, "saving before", () -> x.saving(2, 1));
        Check.due(40, "mergeInto", () -> x.mergeInto(2, 1));
        Check.due(0, "saving after", () -> x.saving(2, 1));
        Check.due(20, "saving with the third", () -> x.saving(0, 2));
        Check.due(20, "mergeInto the third", () -> x.mergeInto(0, 2));
        Check.due(60, "walkLength of all", () -> x.walkLength(0));
        Check.due(0, "mergeInto, a round without streets", () -> x.mergeInto(0, 1));
        Check.due(0, "mergeInto a round without streets", () -> x.mergeInto(1, 0));
        Check.due(60, "walkLength of all there", () -> x.walkLength(1));
    }

    /** "or the one round would not be in time with all these streets": by the limit of the one. */
    private static void mergeAtTheLimit() {
        for (int limit = 43; limit <= 45; limit++) {
            Candleford x = row(limit, 1);
            Check.badState("mergeInto, 44 minutes of 1", () -> x.mergeInto(1, 0));
            Check.due(0, "roundOf the first then", () -> x.roundOf(0));
            if (limit < 44) {
                Check.badState("mergeInto, 44 minutes of " + limit, () -> x.mergeInto(0, 1));
            } else {
                Check.due(20, "mergeInto, 44 minutes of " + limit, () -> x.mergeInto(0, 1));
            }
            Check.due(limit < 44 ? 1 : 0, "roundOf the second then", () -> x.roundOf(1));
        }
    }

    private static void mergeByTheTimeOfBoth() {
        Candleford x = row(49, 999);
        x.parcel(0, 5, 9);
        x.parcel(1, 5, 9);
        x.parcel(1, 5, 9);
        x.addHouse(1, 0, 9);
        x.parcel(2, 5, 9);
        Check.badState("mergeInto, 50 minutes of 49", () -> x.mergeInto(0, 1));
        x.parcel(2, 6, 9);
        x.setBag(4);
        Check.due(20, "saving with heavy parcels", () -> x.saving(0, 1));
        Check.due(20, "mergeInto, 44 minutes of 49", () -> x.mergeInto(0, 1));
        x.setBag(5);
        Check.due(50, "walkTime then", () -> x.walkTime(0));
        Check.due(false, "isInTime then", () -> x.isInTime(0));
    }

    private static void mergeAllRounds() {
        Candleford x = row(999, 999, 999, 999);
        for (int i = 0; i < 3; i++) {
            int pair = x.bestMerge();
            x.mergeInto(pair / 4, pair % 4);
        }
        Check.noSuch("bestMerge, all in one", () -> x.bestMerge());
        Check.due(80, "walkLength of all", () -> x.walkLength(x.roundOf(0)));
    }

    /** "if no pair can be merged with a saving that is greater than 0". */
    private static void noPairToMerge() {
        Candleford none = new Candleford();
        Check.noSuch("bestMerge without rounds", () -> none.bestMerge());
        Candleford single = row(999);
        Check.noSuch("bestMerge, one round", () -> single.bestMerge());
        Candleford x = row(43, 43);
        Check.noSuch("bestMerge, 44 minutes of 43", () -> x.bestMerge());
        Candleford y = row(43, 44);
        Check.due(4, "bestMerge, 44 minutes of 44", () -> y.bestMerge());
        y.newDay();
        Check.noSuch("bestMerge without post", () -> y.bestMerge());
        Candleford z = row(999, 999);
        z.assign(streetWithoutWay(z), 1);
        Check.noSuch("bestMerge, the other has no walk", () -> z.bestMerge());
        Candleford u = Villages.ofParallelStreets(0, 0, 0, 0, 0, 1, 1, 1, 1);
        Check.noSuch("bestMerge, nine passes together", () -> u.bestMerge());
    }

    /** "by the greatest saving that is greater than 0": 1 is, 0 is not. */
    private static void savingGreaterThan0() {
        for (int saving = 0; saving <= 1; saving++) {
            Candleford x = Villages.ofPlaces(3);
            x.addStreet(0, 1, 1, true);
            x.addStreet(2, 0, 1, true);
            x.addStreet(1, 2, 2 - saving, true);
            for (int round = 0; round < 2; round++) {
                x.addRound(999);
                x.addHouse(round, 0, 0);
                x.assign(round, round);
                x.letters(round, 1);
            }
            int due = saving;
            Check.due(due, "saving", () -> x.saving(0, 1));
            Check.due(due == 0 ? "throws.NoSuchElementException" : "1", "bestMerge", () -> x.bestMerge());
            Check.due(due, "mergeInto", () -> x.mergeInto(0, 1));
        }
    }

    /** "4 times the one round plus the other one, whose streets would go to the one": from 1 to 14. */
    private static void lowestAndHighestPair() {
        for (int pair = 0; pair < 16; pair++) {
            if (pair / 4 != pair % 4) {
                onlyPair(pair / 4, pair % 4);
            }
        }
    }

    /** All streets but one are those of the other round, and only the one round has time for all. */
    private static void onlyPair(int one, int other) {
        int[] limits = {1, 1, 1, 1};
        limits[one] = 999;
        Candleford x = row(limits);
        for (int street = 0; street < 4; street++) {
            x.assign(street, street == one ? one : other);
        }
        Check.due(4 * one + other, "bestMerge of " + one + " and " + other, () -> x.bestMerge());
        Check.due(other, "roundOf after it", () -> x.roundOf(other));
        x.mergeInto(one, other);
        Check.due(one, "roundOf when it is merged", () -> x.roundOf(other));
    }

    private static void greatestSaving() {
        Candleford x = row(999, 999, 999, 999);
        Check.due(11, "bestMerge, 60 of 2 and 3", () -> x.bestMerge());
        x.deliver(3);
        Check.due(6, "bestMerge, 40 of 1 and 2", () -> x.bestMerge());
        x.deliver(2);
        Check.due(1, "bestMerge, 20 of 0 and 1", () -> x.bestMerge());
        x.deliver(1);
        Check.noSuch("bestMerge, one walk", () -> x.bestMerge());
        x.letters(3, 1);
        Check.due(3, "bestMerge, 20 of 0 and 3", () -> x.bestMerge());
    }

    /** "of several, the pair with the lowest number." */
    private static void lowestOfSeveral() {
        Candleford x = Villages.ofParallelStreets(3, 2, 1, 0);
        Check.due(10, "saving, each pair", () -> x.saving(3, 2));
        Check.due(1, "bestMerge, twelve pairs", () -> x.bestMerge());
        x.assign(3, 1);
        Check.due(0, "saving, two passes and one", () -> x.saving(1, 2));
        Check.due(11, "bestMerge, 2 and 3 alone", () -> x.bestMerge());
        Candleford y = row(1, 999, 999, 999);
        y.deliver(3);
        y.newDay();
        for (int house = 0; house < 3; house += 2) {
            y.letters(house, 1);
        }
        Check.due(8, "bestMerge, 2 and 0, as 0 and 2 is not in time", () -> y.bestMerge());
    }

    /** "pair of rounds that can be merged": one with a greater saving may not be. */
    private static void pairsThatCanBeMerged() {
        Candleford x = row(999, 999, 83, 83);
        Check.due(60, "saving of 2 and 3", () -> x.saving(2, 3));
        Check.due(6, "bestMerge, 2 and 3 are not in time", () -> x.bestMerge());
        Candleford y = row(999, 999, 83, 84);
        Check.due(14, "bestMerge, 3 and 2, 84 minutes of 84", () -> y.bestMerge());
        Candleford z = row(999, 1, 1, 1);
        Check.due(1, "bestMerge, the others are not in time by themselves", () -> z.bestMerge());
        Candleford u = row(999, 999, 999, 999);
        u.assign(streetWithoutWay(u), 3);
        Check.due(6, "bestMerge, 3 has no walk", () -> u.bestMerge());
    }
}
