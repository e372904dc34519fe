/**
 * The sentences of "Post", and of the promises 7 to 10, 16 to 18, 35, 36 and 44, that name an edge: each has a method
 * of its own, and stands above it. What is refused there stands in RefusedTest too.
 */
public final class PostEdgesTest {
    public static void main(String[] args) {
        bagIs5AtFirst();
        bagFrom0To99();
        bagBefore();
        count1To20();
        atMost99Letters();
        ninetyNineAtOnce();
        atMostTwentyParcels();
        twentyParcelsOfEachDay();
        weightFrom1To99();
        deadlineFrom1To999();
        heavyIfGreater();
        dueByLetters();
        dueByParcels();
        dueByTheBag();
        dueOfThirty();
        newDayReturns();
        newDayTakesAll();
        newDayLeavesTheRest();
        parcelStates();
        meanOfNone();
        meanOfSeveral();
        meanOfMost();
        run512Calls();
        Check.end();
    }

    /** A wide street of the round 0 with houses on the side 0. */
    private static Candleford ofHouses(int count) {
        Candleford x = Villages.ofOneStreet(10, true);
        for (int house = 0; house < count; house++) {
            x.addHouse(0, 0, house % 11);
        }
        return x;
    }

    /** "the bag, which is 5 at first". */
    private static void bagIs5AtFirst() {
        Candleford x = ofHouses(1);
        x.parcel(0, 5, 1);
        Check.due(false, "isHeavy, 5 at first", () -> x.isHeavy(0));
        x.parcel(0, 6, 1);
        Check.due(true, "isHeavy, 6 at first", () -> x.isHeavy(1));
        Check.due(5, "setBag, the first time", () -> x.setBag(6));
        Check.due(false, "isHeavy, 6 then", () -> x.isHeavy(1));
    }

    /** "the greatest weight of a parcel that is not heavy, 0 to 99". */
    private static void bagFrom0To99() {
        Candleford x = ofHouses(1);
        x.parcel(0, 1, 1);
        x.parcel(0, 99, 1);
        for (int weight : Check.outside(0, 99)) {
            Check.badArgument("setBag(" + weight + ")", () -> x.setBag(weight));
            Check.due(false, "isHeavy, the lightest, then", () -> x.isHeavy(0));
            Check.due(true, "isHeavy, the heaviest, then", () -> x.isHeavy(1));
        }
        Check.due(5, "setBag(0)", () -> x.setBag(0));
        Check.due(true, "isHeavy, the lightest with no bag", () -> x.isHeavy(0));
        Check.due(0, "setBag(1)", () -> x.setBag(1));
        Check.due(false, "isHeavy, the lightest with a bag of 1", () -> x.isHeavy(0));
        Check.due(1, "setBag(98)", () -> x.setBag(98));
        Check.due(true, "isHeavy, the heaviest with a bag of 98", () -> x.isHeavy(1));
        Check.due(98, "setBag(99)", () -> x.setBag(99));
        Check.due(false, "isHeavy, the heaviest with a bag of 99", () -> x.isHeavy(1));
    }

    /** setBag "Returns the bag before." */
    private static void bagBefore() {
        Candleford x = new Candleford();
        Check.due(5, "setBag to the same", () -> x.setBag(5));
        Check.due(5, "setBag to the greatest", () -> x.setBag(99));
        Check.badArgument("setBag, one more", () -> x.setBag(100));
        Check.due(99, "setBag after a refused one", () -> x.setBag(0));
        Check.badArgument("setBag, one less", () -> x.setBag(-1));
        Check.due(0, "setBag after another refused one", () -> x.setBag(0));
    }

    /** "how many, 1 to 20". */
    private static void count1To20() {
        Candleford x = ofHouses(2);
        for (int count : Check.outside(1, 20)) {
            Check.badArgument("letters, " + count, () -> x.letters(0, count));
        }
        Check.due(0, "lettersOf then", () -> x.lettersOf(0));
        Check.due(false, "isDue then", () -> x.isDue(0));
        Check.due(1, "letters, 1", () -> x.letters(0, 1));
        Check.due(20, "letters, 20", () -> x.letters(1, 20));
        Check.due(21, "letters, 20 more", () -> x.letters(0, 20));
        Check.due(21, "letters, 1 more", () -> x.letters(1, 1));
    }

    /** "A house can have letters, at most 99"; "if the house would have more than 99 letters". */
    private static void atMost99Letters() {
        Candleford x = ofHouses(2);
        for (int i = 1; i <= 4; i++) {
            int sum = 20 * i;
            Check.due(sum, "letters", () -> x.letters(0, 20));
        }
        Check.badState("letters, 100 by 20", () -> x.letters(0, 20));
        Check.due(80, "lettersOf then", () -> x.lettersOf(0));
        Check.due(98, "letters, 98", () -> x.letters(0, 18));
        Check.badState("letters, 100 by 2", () -> x.letters(0, 2));
        Check.due(99, "letters, 99", () -> x.letters(0, 1));
        Check.badState("letters, 100 by 1", () -> x.letters(0, 1));
        Check.badState("letters, 119", () -> x.letters(0, 20));
        Check.badArgument("letters, 21 with 99 there", () -> x.letters(0, 21));
        Check.badArgument("letters, none with 99 there", () -> x.letters(0, 0));
        Check.badArgument("letters, the greatest with 99 there", () -> x.letters(0, Integer.MAX_VALUE));
        Check.due(99, "lettersOf in the end", () -> x.lettersOf(0));
        Check.due(1, "letters for another house", () -> x.letters(1, 1));
        x.deliver(0);
        Check.due(20, "letters after the round", () -> x.letters(0, 20));
    }

    private static void ninetyNineAtOnce() {
        Candleford x = ofHouses(1);
        x.letters(0, 19);
        for (int i = 0; i < 3; i++) {
            x.letters(0, 20);
        }
        Check.due(99, "letters, from 79 to 99", () -> x.letters(0, 20));
        Check.badState("letters, 100", () -> x.letters(0, 1));
    }

    /** "At most 20 parcels of a day have numbers from 0 in the order in which they were posted". */
    private static void atMostTwentyParcels() {
        Candleford x = ofHouses(2);
        Check.noSuch("parcelState of the parcel 0 before it is there", () -> x.parcelState(0));
        for (int parcel = 0; parcel < 20; parcel++) {
            int number = parcel;
            Check.due(number, "parcel", () -> x.parcel(number % 2, 1 + 5 * (number % 2), 999 - number));
        }
        Check.badState("parcel, the 21st", () -> x.parcel(0, 1, 1));
        Check.due("w", "parcelState, the last", () -> x.parcelState(19));
        Check.noSuch("parcelState, the parcel 20", () -> x.parcelState(20));
        Check.due(true, "isHeavy, the last", () -> x.isHeavy(19));
        Check.noSuch("isHeavy, the parcel 20", () -> x.isHeavy(20));
        Check.due(1, "tripOf the last", () -> x.tripOf(19));
        Check.noSuch("tripOf the parcel 20", () -> x.tripOf(20));
        Check.due(19, "nextParcel, the last", () -> x.nextParcel());
        x.dispatch();
        Check.badState("parcel, one delivered by the van", () -> x.parcel(0, 1, 1));
        x.deliver(0);
        Check.badState("parcel, ten delivered by a round", () -> x.parcel(0, 1, 1));
        Check.due("d", "parcelState, the last delivered", () -> x.parcelState(19));
        Check.due(17, "nextParcel after a refused one", () -> x.nextParcel());
    }

    /** "20 parcels of this day": on a new day there are none. */
    private static void twentyParcelsOfEachDay() {
        Candleford x = ofHouses(1);
        for (int day = 0; day < 3; day++) {
            for (int parcel = 0; parcel < 20; parcel++) {
                int number = parcel;
                Check.due(number, "parcel of another day", () -> x.parcel(0, 9, 9));
            }
            Check.badState("parcel of another day, the 21st", () -> x.parcel(0, 9, 9));
            x.newDay();
            Check.noSuch("parcelState on a new day", () -> x.parcelState(0));
        }
    }

    /** "a parcel is for a house and has a weight from 1 to 99". */
    private static void weightFrom1To99() {
        Candleford x = ofHouses(2);
        for (int weight : Check.outside(1, 99)) {
            Check.badArgument("parcel of the weight " + weight, () -> x.parcel(1, weight, 1));
        }
        Check.noSuch("no parcel then", () -> x.isHeavy(0));
        Check.due(0, "parcel of the greatest weight", () -> x.parcel(0, 99, 1));
        Check.due(1, "parcel of the least weight", () -> x.parcel(1, 1, 1));
        Check.due(true, "isHeavy, the greatest weight", () -> x.isHeavy(0));
        Check.due(false, "isHeavy, the least weight", () -> x.isHeavy(1));
        Check.due(false, "isDue, the house of the heavy one", () -> x.isDue(0));
        Check.due(true, "isDue, the house of the other one", () -> x.isDue(1));
    }

    /** "and a deadline, a minute from 1 to 999". */
    private static void deadlineFrom1To999() {
        Candleford x = ofHouses(1);
        for (int deadline : Check.outside(1, 999)) {
            Check.badArgument("parcel with the deadline " + deadline, () -> x.parcel(0, 9, deadline));
        }
        Check.noSuch("no heavy parcel then", () -> x.nextParcel());
        Check.due(0, "parcel with the greatest deadline", () -> x.parcel(0, 9, 999));
        Check.due(1, "parcel with one less", () -> x.parcel(0, 9, 998));
        Check.due(2, "parcel with one more than the least", () -> x.parcel(0, 9, 2));
        Check.due(3, "parcel with the least deadline", () -> x.parcel(0, 9, 1));
        for (int due : new int[] {3, 2, 1, 0}) {
            Check.due(due, "nextParcel by deadlines", () -> x.nextParcel());
            x.dispatch();
        }
    }

    /** "A parcel is heavy if its weight is greater than the bag"; "heavy parcels need the van". */
    private static void heavyIfGreater() {
        Candleford x = ofHouses(1);
        for (int weight = 49; weight <= 51; weight++) {
            x.parcel(0, weight, 9);
        }
        x.setBag(50);
        Check.due(false, "isHeavy, one less than the bag", () -> x.isHeavy(0));
        Check.due(false, "isHeavy, as much as the bag", () -> x.isHeavy(1));
        Check.due(true, "isHeavy, one more than the bag", () -> x.isHeavy(2));
        Check.due(2, "nextParcel, one more than the bag", () -> x.nextParcel());
        x.setBag(51);
        Check.noSuch("nextParcel, none heavy", () -> x.nextParcel());
        Check.noSuch("dispatch, none heavy", () -> x.dispatch());
        x.setBag(48);
        Check.due(true, "isHeavy with a smaller bag", () -> x.isHeavy(0));
        Check.due(0, "nextParcel with a smaller bag", () -> x.nextParcel());
        x.dispatch();
        Check.due(true, "isHeavy when it is delivered", () -> x.isHeavy(0));
        x.setBag(49);
        Check.due(false, "isHeavy when it is delivered, with a bag as great", () -> x.isHeavy(0));
    }

    /** "A house is due if it has letters". */
    private static void dueByLetters() {
        Candleford x = ofHouses(2);
        Check.due(false, "isDue without letters", () -> x.isDue(0));
        x.letters(0, 1);
        Check.due(true, "isDue with one letter", () -> x.isDue(0));
        Check.due(false, "isDue, the house beside it", () -> x.isDue(1));
        Check.due(1, "due with one letter", () -> x.due(0));
        x.deliver(0);
        Check.due(false, "isDue after the round", () -> x.isDue(0));
        Check.due(0, "due after the round", () -> x.due(0));
    }

    /** "or a parcel that is not heavy and not delivered." */
    private static void dueByParcels() {
        Candleford x = ofHouses(2);
        x.parcel(0, 6, 1);
        Check.due(false, "isDue with a heavy parcel", () -> x.isDue(0));
        x.parcel(0, 5, 1);
        Check.due(true, "isDue with another one", () -> x.isDue(0));
        Check.due(false, "isDue, the house beside it", () -> x.isDue(1));
        x.parcel(0, 1, 1);
        Check.due(1, "due, a house with two parcels", () -> x.due(0));
        x.deliver(0);
        Check.due(false, "isDue after the round", () -> x.isDue(0));
        for (int parcel = 3; parcel < 19; parcel++) {
            x.parcel(0, 50, 1);
        }
        Check.due(false, "isDue with 17 heavy parcels and two that are delivered", () -> x.isDue(0));
        x.parcel(1, 5, 1);
        Check.due(true, "isDue by the last parcel", () -> x.isDue(1));
        Check.due(false, "isDue, the parcel is for another house", () -> x.isDue(0));
    }

    private static void dueByTheBag() {
        Candleford x = ofHouses(1);
        x.parcel(0, 6, 1);
        x.parcel(0, 7, 1);
        x.dispatch();
        x.setBag(6);
        Check.due(false, "isDue, the van has delivered what is not heavy now", () -> x.isDue(0));
        x.setBag(7);
        Check.due(true, "isDue, the other one is not heavy now", () -> x.isDue(0));
        x.deliver(0);
        x.setBag(0);
        Check.due(false, "isDue, all delivered", () -> x.isDue(0));
        Check.noSuch("nextParcel, all delivered", () -> x.nextParcel());
    }

    /** due: "the number of houses that are due and stand at a street of a round". */
    private static void dueOfThirty() {
        Candleford x = ofHouses(30);
        for (int house = 0; house < 30; house++) {
            Check.due(house, "due", () -> x.due(0));
            x.letters(house, 1);
        }
        Check.due(30, "due, thirty", () -> x.due(0));
        x.addRound(1);
        Check.due(0, "due of another round", () -> x.due(1));
        x.assign(0, 1);
        Check.due(0, "due without the street", () -> x.due(0));
        Check.due(30, "due of another round with the street", () -> x.due(1));
        Candleford y = Villages.ofParallelStreets(0, 1, 1, 2, 2, 2, 3, 3, 3, 3);
        for (int round = 0; round < 4; round++) {
            int number = round;
            Check.due(round + 1, "due of the round " + round + " of four", () -> y.due(number));
        }
        y.deliver(2);
        Check.due(0, "due of the round 2 after it", () -> y.due(2));
        Check.due(4, "due of the round 3 after it", () -> y.due(3));
    }

    /** newDay "Returns the number of houses that were due." */
    private static void newDayReturns() {
        Candleford empty = new Candleford();
        Check.due(0, "newDay without houses", () -> empty.newDay());
        Candleford x = ofHouses(29);
        x.addStreet(0, 1, 10, true);
        x.addHouse(1, 0, 0);
        Check.due(0, "newDay without post", () -> x.newDay());
        x.letters(29, 1);
        Check.due(1, "newDay, a house of no round", () -> x.newDay());
        Check.due(0, "newDay again", () -> x.newDay());
        x.parcel(0, 6, 1);
        Check.due(0, "newDay, a heavy parcel", () -> x.newDay());
        x.parcel(0, 5, 1);
        x.parcel(29, 5, 1);
        Check.due(2, "newDay, two houses with a parcel alone", () -> x.newDay());
        x.parcel(0, 5, 1);
        x.deliver(0);
        Check.due(0, "newDay, a parcel that is delivered", () -> x.newDay());
        x.parcel(0, 5, 1);
        x.parcel(0, 5, 1);
        x.letters(0, 5);
        Check.due(1, "newDay, a house with letters and parcels", () -> x.newDay());
        x.letters(0, 5);
        x.deliver(0);
        Check.due(0, "newDay after the round", () -> x.newDay());
        for (int house = 0; house < 30; house++) {
            x.letters(house, 1);
        }
        Check.due(30, "newDay, thirty", () -> x.newDay());
    }

    /** "all letters and parcels are gone, and the clock of the van is 0." */
    private static void newDayTakesAll() {
        Candleford x = ofHouses(30);
        for (int i = 0; i < 5; i++) {
            x.letters(29, i == 0 ? 19 : 20);
        }
        for (int parcel = 0; parcel < 20; parcel++) {
            x.parcel(parcel, parcel % 2 == 0 ? 9 : 1, 9);
        }
        for (int i = 0; i < 5; i++) {
            x.dispatch();
        }
        x.newDay();
        Check.due(0, "vanClock on a new day", () -> x.vanClock());
        Check.due(0, "lettersOf the last house on a new day", () -> x.lettersOf(29));
        Check.due(20, "letters on a new day", () -> x.letters(29, 20));
        Check.due(false, "isDue on a new day", () -> x.isDue(1));
        Check.noSuch("parcelState, the first, on a new day", () -> x.parcelState(0));
        Check.noSuch("isHeavy, the first, on a new day", () -> x.isHeavy(0));
        Check.noSuch("tripOf the last on a new day", () -> x.tripOf(19));
        Check.noSuch("nextParcel on a new day", () -> x.nextParcel());
        Check.noSuch("dispatch on a new day", () -> x.dispatch());
        Check.due(0, "parcel on a new day", () -> x.parcel(29, 9, 9));
        Check.due("w", "parcelState of the new parcel", () -> x.parcelState(0));
        Check.noSuch("parcelState, the second, on a new day", () -> x.parcelState(1));
    }

    private static void newDayLeavesTheRest() {
        Candleford x = Villages.ordinary();
        x.newDay();
        Check.due(4, "places on a new day", () -> x.places());
        Check.due(4, "streets on a new day", () -> x.streets());
        Check.due(6, "houses on a new day", () -> x.houses());
        Check.due(0, "roundOf on a new day", () -> x.roundOf(1));
        Check.due(1, "late on a new day", () -> x.late());
        Check.due(1.0f / 3.0f, "lateShare on a new day", () -> x.lateShare());
        Check.due(50L, "walked on a new day", () -> x.walked());
        Check.due(7, "the bag on a new day", () -> x.setBag(7));
    }

    /** "Returns 'w' if it waits, 'd' if it is delivered." */
    private static void parcelStates() {
        Candleford x = ofHouses(1);
        x.addStreet(0, 1, 10, true);
        x.addHouse(1, 0, 3);
        x.parcel(0, 5, 1);
        x.parcel(0, 6, 1);
        x.parcel(1, 5, 1);
        for (int parcel = 0; parcel < 3; parcel++) {
            int number = parcel;
            Check.due("w", "parcelState, posted", () -> x.parcelState(number));
        }
        x.deliver(0);
        Check.due("d", "parcelState after the round", () -> x.parcelState(0));
        Check.due("w", "parcelState of a heavy one after the round", () -> x.parcelState(1));
        Check.due("w", "parcelState of one of no round", () -> x.parcelState(2));
        x.dispatch();
        Check.due("d", "parcelState after the van", () -> x.parcelState(1));
        Check.due("w", "parcelState of one of no round after the van", () -> x.parcelState(2));
    }

    /** meanLetters: "if no house is due". */
    private static void meanOfNone() {
        Candleford empty = new Candleford();
        Check.badDivision("meanLetters without houses", () -> empty.meanLetters());
        Candleford x = ofHouses(2);
        Check.badDivision("meanLetters without post", () -> x.meanLetters());
        x.parcel(0, 6, 1);
        Check.badDivision("meanLetters, a heavy parcel alone", () -> x.meanLetters());
        x.setBag(6);
        Check.due(0.0, "meanLetters, a parcel alone", () -> x.meanLetters());
        x.letters(1, 1);
        Check.due(0.5, "meanLetters, a parcel and a letter", () -> x.meanLetters());
        x.deliver(0);
        Check.badDivision("meanLetters after the round", () -> x.meanLetters());
        x.letters(1, 1);
        x.newDay();
        Check.badDivision("meanLetters on a new day", () -> x.meanLetters());
    }

    /** "the sum of their letters divided by their number, both converted to double." */
    private static void meanOfSeveral() {
        Candleford x = ofHouses(7);
        x.letters(0, 2);
        Check.due(2.0, "meanLetters of one house", () -> x.meanLetters());
        x.letters(6, 3);
        Check.due(2.5, "meanLetters of two", () -> x.meanLetters());
        x.letters(1, 2);
        Check.due(7.0 / 3.0, "meanLetters of three", () -> x.meanLetters());
        x.parcel(1, 9, 9);
        x.parcel(2, 9, 9);
        Check.due(7.0 / 3.0, "meanLetters with heavy parcels", () -> x.meanLetters());
        for (int house = 2; house < 6; house++) {
            x.letters(house, 1);
        }
        Check.due(11.0 / 7.0, "meanLetters of seven", () -> x.meanLetters());
        x.addStreet(0, 1, 5, true);
        x.addHouse(1, 0, 0);
        x.letters(7, 20);
        Check.due(31.0 / 8.0, "meanLetters with a house of no round", () -> x.meanLetters());
    }

    private static void meanOfMost() {
        Candleford x = ofHouses(30);
        for (int i = 0; i < 150; i++) {
            x.letters(i % 30, i < 30 ? 19 : 20);
        }
        Check.due(99.0, "meanLetters, 99 for each of thirty", () -> x.meanLetters());
        Check.due(2970.0 / 30.0, "meanLetters, 2970 of thirty", () -> x.meanLetters());
        for (int house = 0; house < 30; house += 29) {
            x.newDay();
            x.letters(house, 4);
            Check.due(4.0, "meanLetters of the house " + house + " alone", () -> x.meanLetters());
            x.parcel(29 - house, 5, 9);
            Check.due(2.0, "meanLetters with a parcel at the other end", () -> x.meanLetters());
        }
    }

    /** "An object is used for at most 512 calls": the last one of a run answers as the first. */
    private static void run512Calls() {
        Candleford x = ofHouses(1);
        // Before these days, the place, the street, the round, its street and the house have been 5 calls.
        for (int day = 1; day <= 101; day++) {
            long sum = 20L * day;
            Check.due(20, "letters on the day " + day, () -> x.letters(0, 20));
            Check.due(0, "parcel on the day " + day, () -> x.parcel(0, 5, 9));
            Check.due(1, "deliver on the day " + day, () -> x.deliver(0));
            Check.due(sum, "walked on the day " + day, () -> x.walked());
            Check.due(0, "newDay after the day " + day, () -> x.newDay());
        }
        Check.due(1, "letters, the 511th call", () -> x.letters(0, 1));
        Check.due(20, "walkLength, the 512th call", () -> x.walkLength(0));
    }
}
