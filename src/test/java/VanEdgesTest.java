/**
 * The sentences of "Van", and of the promises 37 to 41 and 43, that name an edge: each has a method of its own, and
 * stands above it. What is refused there stands in RefusedTest too.
 */
public final class VanEdgesTest {
    public static void main(String[] args) {
        clockIs0AtFirst();
        nextOfNone();
        leastDeadline();
        nearestFirstEnd();
        noDistanceComesLast();
        lowestNumber();
        nextOfTwenty();
        dividedBy3AndRoundedUp();
        longestTrip();
        tripOfEachParcel();
        tripWithoutDistance();
        clockIncreases();
        greaterThanTheDeadline();
        halfRoundedDown();
        lateAtTheGreatestDeadline();
        deliversOneParcel();
        dispatchWithoutDistance();
        dispatchOfNone();
        lateOfAllDays();
        shareOfNone();
        shareOfAllDays();
        Check.end();
    }

    /** A street from the post office of the length 99, with a house at each of some offsets. */
    private static Candleford ofOffsets(int... offsets) {
        Candleford x = Villages.ofOneStreet(99, true);
        for (int offset : offsets) {
            x.addHouse(0, 0, offset);
        }
        return x;
    }

    /** "The van has a clock, which is 0 at first." */
    private static void clockIs0AtFirst() {
        Candleford x = ofOffsets(6);
        Check.due(0, "vanClock at first", () -> x.vanClock());
        x.parcel(0, 9, 9);
        Check.due(0, "vanClock before the first trip", () -> x.vanClock());
        x.letters(0, 1);
        x.deliver(0);
        Check.due(0, "vanClock after a round", () -> x.vanClock());
        x.dispatch();
        Check.due(4, "vanClock after a trip", () -> x.vanClock());
        x.newDay();
        Check.due(0, "vanClock on a new day", () -> x.vanClock());
    }

    /** nextParcel: "if no heavy parcel waits". */
    private static void nextOfNone() {
        Candleford x = ofOffsets(6);
        Check.noSuch("nextParcel without parcels", () -> x.nextParcel());
        x.parcel(0, 5, 1);
        Check.noSuch("nextParcel, none heavy", () -> x.nextParcel());
        x.parcel(0, 6, 999);
        Check.due(1, "nextParcel, one heavy", () -> x.nextParcel());
        Check.due(1, "nextParcel, asked again", () -> x.nextParcel());
        x.dispatch();
        Check.noSuch("nextParcel, all delivered", () -> x.nextParcel());
        x.setBag(4);
        Check.due(0, "nextParcel with a smaller bag", () -> x.nextParcel());
        x.newDay();
        Check.noSuch("nextParcel on a new day", () -> x.nextParcel());
    }

    /** "the one with the least deadline", though another one is nearer or has a lower number. */
    private static void leastDeadline() {
        Candleford x = Villages.ofLongRow();
        x.addHouse(0, 0, 0);
        x.addHouse(8, 0, 99);
        x.parcel(0, 6, 500);
        x.parcel(1, 99, 500);
        Check.due(0, "nextParcel, the same deadlines", () -> x.nextParcel());
        x.parcel(1, 6, 499);
        Check.due(2, "nextParcel, one less", () -> x.nextParcel());
        x.parcel(0, 6, 501);
        Check.due(2, "nextParcel, one more", () -> x.nextParcel());
        x.parcel(1, 6, 1);
        Check.due(4, "nextParcel, the least", () -> x.nextParcel());
    }

    /** "the one for the house whose street has the first end that is nearest to the post office", by one. */
    private static void nearestFirstEnd() {
        Candleford x = Villages.ofPlaces(3);
        x.addStreet(0, 2, 11, true);
        x.addStreet(0, 1, 10, true);
        x.addStreet(2, 0, 20, true);
        x.addStreet(1, 2, 99, true);
        x.addStreet(1, 0, 99, true);
        x.addHouse(2, 0, 0);
        x.addHouse(3, 0, 99);
        x.addHouse(4, 0, 0);
        x.addHouse(0, 0, 11);
        x.parcel(0, 6, 50);
        Check.due(0, "nextParcel, the first end 11", () -> x.nextParcel());
        x.parcel(1, 6, 50);
        Check.due(1, "nextParcel, the first end 10, whatever the offset", () -> x.nextParcel());
        x.parcel(2, 6, 50);
        Check.due(1, "nextParcel, the first end 10 too", () -> x.nextParcel());
        x.parcel(3, 6, 50);
        Check.due(3, "nextParcel, the first end is the post office", () -> x.nextParcel());
        x.addStreet(2, 0, 9, false);
        x.dispatch();
        Check.due(0, "nextParcel over a new street, the first end 9", () -> x.nextParcel());
    }

    /** "where a place without distance to it comes last". */
    private static void noDistanceComesLast() {
        Candleford x = Villages.ofPlaces(10);
        for (int place = 0; place < 7; place++) {
            x.addStreet(place, place + 1, 99, true);
        }
        x.addStreet(8, 9, 1, true);
        x.addStreet(7, 6, 99, true);
        x.addHouse(7, 0, 0);
        x.addHouse(8, 0, 99);
        x.parcel(0, 6, 50);
        Check.due(0, "nextParcel, no distance alone", () -> x.nextParcel());
        x.parcel(1, 6, 50);
        Check.due(1, "nextParcel, a distance of 693 first", () -> x.nextParcel());
        x.parcel(0, 6, 49);
        Check.due(2, "nextParcel, the deadline before the distance", () -> x.nextParcel());
        x.parcel(0, 6, 49);
        Check.due(2, "nextParcel, the lowest number of two without distance", () -> x.nextParcel());
        x.addStreet(8, 0, 99, true);
        Check.due(2, "nextParcel over a new street", () -> x.nextParcel());
        x.dispatch();
        x.dispatch();
        Check.due(0, "nextParcel over a new street, the nearest", () -> x.nextParcel());
    }

    /** "of several, the one with the lowest number." */
    private static void lowestNumber() {
        Candleford x = ofOffsets(99, 0);
        x.addStreet(0, 1, 99, false);
        x.addHouse(1, 1, 0);
        for (int parcel = 0; parcel < 3; parcel++) {
            x.parcel(parcel, 99 - parcel, 50);
        }
        for (int parcel = 0; parcel < 3; parcel++) {
            int number = parcel;
            Check.due(number, "nextParcel", () -> x.nextParcel());
            x.dispatch();
            Check.due("d", "parcelState then", () -> x.parcelState(number));
        }
        Check.noSuch("nextParcel, all delivered", () -> x.nextParcel());
    }

    private static void nextOfTwenty() {
        Candleford x = ofOffsets(3);
        for (int parcel = 0; parcel < 20; parcel++) {
            x.parcel(0, 6, 999 - parcel);
        }
        for (int parcel = 19; parcel >= 0; parcel--) {
            int number = parcel;
            Check.due(number, "nextParcel of twenty", () -> x.nextParcel());
            Check.due(false, "dispatch of twenty", () -> x.dispatch());
            Check.due(2 * (20 - number), "vanClock of twenty", () -> x.vanClock());
        }
        Check.noSuch("dispatch, the 21st", () -> x.dispatch());
    }

    /** "twice the distance .. and twice the offset .. are added, .. divided by 3 and rounded up." */
    private static void dividedBy3AndRoundedUp() {
        int[] trips = {0, 1, 2, 2, 3, 4, 4, 5, 6, 6, 7};
        Candleford x = Villages.ofPlaces(3);
        x.addStreet(0, 1, 4, true);
        x.addStreet(0, 2, 99, true);
        x.addStreet(1, 0, 99, true);
        for (int sum = 0; sum <= 10; sum++) {
            int parcel = sum;
            x.addHouse(sum < 4 ? 1 : 2, sum % 2, sum < 4 ? sum : sum - 4);
            x.parcel(sum, 6, 9);
            Check.due(trips[sum], "tripOf, twice " + sum + " divided by 3", () -> x.tripOf(parcel));
        }
    }

    /** Twice 891 and twice 99, divided by 3. */
    private static void longestTrip() {
        Candleford x = Villages.ofLongRow();
        x.addStreet(9, 8, 99, true);
        x.addHouse(9, 0, 99);
        x.addHouse(9, 0, 98);
        for (int i = 0; i < 20; i++) {
            x.parcel(0, 99, i == 0 ? 330 : 331);
        }
        Check.due(660, "tripOf the farthest house", () -> x.tripOf(0));
        Check.due(false, "dispatch, 660 - 330 is not greater than 330", () -> x.dispatch());
        Check.due(660, "vanClock", () -> x.vanClock());
        for (int i = 1; i < 20; i++) {
            Check.due(true, "dispatch, later", () -> x.dispatch());
        }
        Check.due(13200, "vanClock after twenty trips", () -> x.vanClock());
        Check.due(19, "late after twenty trips", () -> x.late());
        Check.due(19.0f / 20.0f, "lateShare after twenty trips", () -> x.lateShare());
        x.newDay();
        x.parcel(0, 99, 329);
        x.parcel(1, 99, 999);
        Check.due(660, "tripOf, 989 of 990: 1978 / 3, rounded up", () -> x.tripOf(1));
        Check.due(true, "dispatch, 660 - 330 is greater than 329", () -> x.dispatch());
        Check.due(20, "late after that", () -> x.late());
    }

    /** tripOf: "if there is no such parcel"; one that is not heavy or is delivered is there. */
    private static void tripOfEachParcel() {
        Candleford x = ofOffsets(3);
        Check.noSuch("tripOf without parcels", () -> x.tripOf(0));
        x.parcel(0, 5, 9);
        x.parcel(0, 6, 9);
        Check.due(2, "tripOf a parcel that is not heavy", () -> x.tripOf(0));
        x.dispatch();
        x.deliver(0);
        Check.due(2, "tripOf a parcel that the round has delivered", () -> x.tripOf(0));
        Check.due(2, "tripOf a parcel that the van has delivered", () -> x.tripOf(1));
        for (int parcel : Check.outside(0, 1)) {
            Check.noSuch("tripOf the parcel " + parcel, () -> x.tripOf(parcel));
        }
        x.newDay();
        Check.noSuch("tripOf on a new day", () -> x.tripOf(0));
    }

    /** tripOf: "if the first end of the street of its house has no distance to the post office". */
    private static void tripWithoutDistance() {
        Candleford x = Villages.ofPlaces(3);
        x.addStreet(1, 2, 9, true);
        x.addHouse(0, 0, 0);
        x.parcel(0, 6, 9);
        x.parcel(0, 5, 9);
        Check.unsupported("tripOf, no distance", () -> x.tripOf(0));
        Check.unsupported("tripOf, not heavy, no distance", () -> x.tripOf(1));
        Check.noSuch("tripOf, no such parcel", () -> x.tripOf(2));
        x.addStreet(2, 0, 90, false);
        Check.due(66, "tripOf, 198 / 3 over the second end", () -> x.tripOf(0));
        x.addStreet(0, 1, 98, false);
        Check.due(66, "tripOf, 196 / 3, rounded up", () -> x.tripOf(1));
        x.addStreet(0, 1, 97, false);
        Check.due(65, "tripOf, 194 / 3, rounded up", () -> x.tripOf(1));
    }

    /** "The clock increases by this"; what is subtracted then is not gone from it. */
    private static void clockIncreases() {
        Candleford x = ofOffsets(0, 1, 99);
        int[] clocks = {0, 1, 67, 133};
        x.parcel(0, 6, 9);
        x.parcel(1, 6, 10);
        x.parcel(2, 6, 11);
        x.parcel(2, 6, 12);
        for (int clock : clocks) {
            x.dispatch();
            Check.due(clock, "vanClock", () -> x.vanClock());
        }
    }

    /** "the parcel is late if the result is greater than the deadline." */
    private static void greaterThanTheDeadline() {
        for (int deadline = 14; deadline <= 16; deadline++) {
            Candleford x = ofOffsets(45);
            int each = deadline;
            x.parcel(0, 6, deadline);
            Check.due(each < 15, "dispatch, 30 - 15 and the deadline " + each, () -> x.dispatch());
            Check.due(each < 15 ? 1 : 0, "late then", () -> x.late());
            Check.due(each < 15 ? 1.0f : 0.0f, "lateShare then", () -> x.lateShare());
            Check.due(30, "vanClock then", () -> x.vanClock());
        }
        Candleford x = ofOffsets(45, 15);
        x.parcel(0, 6, 34);
        x.parcel(1, 6, 34);
        x.parcel(1, 6, 34);
        Check.due(false, "dispatch, 30 - 15", () -> x.dispatch());
        Check.due(true, "dispatch, 40 - 5 and the deadline 34", () -> x.dispatch());
        Check.due(true, "dispatch, 50 - 5 and the deadline 34", () -> x.dispatch());
        x.parcel(1, 6, 55);
        Check.due(false, "dispatch, 60 - 5 and the deadline 55", () -> x.dispatch());
    }

    /** "half of the trip, rounded down, is subtracted from the clock". */
    private static void halfRoundedDown() {
        // Offsets whose trips last 1, 2, 3, 4 and 5 minutes, and what of each is left without its half.
        int[] offsets = {1, 2, 4, 5, 7};
        int[] results = {1, 1, 2, 2, 3};
        for (int i = 0; i < offsets.length; i++) {
            int trip = i + 1;
            int result = results[i];
            Candleford atDeadline = ofOffsets(offsets[i]);
            atDeadline.parcel(0, 6, result);
            Check.due(trip, "tripOf", () -> atDeadline.tripOf(0));
            Check.due(false, "dispatch, " + trip + " minutes till " + result, () -> atDeadline.dispatch());
            if (result > 1) {
                Candleford behind = ofOffsets(offsets[i]);
                behind.parcel(0, 6, result - 1);
                Check.due(true, "dispatch, " + trip + " minutes, one too late", () -> behind.dispatch());
            }
        }
        Candleford atOnce = ofOffsets(0);
        atOnce.parcel(0, 6, 1);
        Check.due(0, "tripOf, at the post office", () -> atOnce.tripOf(0));
        Check.due(false, "dispatch, at the post office", () -> atOnce.dispatch());
    }

    private static void lateAtTheGreatestDeadline() {
        for (int offset = 13; offset <= 14; offset++) {
            Candleford x = Villages.ofLongRow();
            x.addStreet(9, 8, 99, true);
            x.addHouse(9, 0, 99);
            x.addHouse(0, 0, offset);
            x.parcel(0, 6, 997);
            x.parcel(1, 6, 998);
            x.parcel(0, 6, 999);
            x.dispatch();
            x.dispatch();
            int clock = 656 + offset;
            boolean isLate = offset == 14;
            Check.due(clock, "vanClock", () -> x.vanClock());
            Check.due(isLate, "dispatch, " + (clock + 330) + " and the deadline 999", () -> x.dispatch());
        }
    }

    /** "Lets the van deliver the parcel that it takes next": other post of the same house waits still. */
    private static void deliversOneParcel() {
        Candleford x = ofOffsets(6);
        x.letters(0, 9);
        x.parcel(0, 5, 1);
        x.parcel(0, 6, 2);
        x.parcel(0, 6, 1);
        x.parcel(0, 6, 3);
        String[] states = {"www", "wdw", "ddw", "ddd"};
        int[] next = {2, 1, 3};
        for (int trips = 0; trips <= 3; trips++) {
            String due = states[trips];
            Check.due(due, "parcelState of the heavy ones after " + trips,
                    () -> "" + x.parcelState(1) + x.parcelState(2) + x.parcelState(3));
            Check.due("w", "parcelState of the one that is not heavy", () -> x.parcelState(0));
            Check.due(9, "lettersOf the house", () -> x.lettersOf(0));
            Check.due(true, "isDue, the house", () -> x.isDue(0));
            if (trips < 3) {
                int number = next[trips];
                Check.due(number, "nextParcel", () -> x.nextParcel());
                x.dispatch();
            }
        }
    }

    /** dispatch: "if the first end of the street of its house has no distance to the post office". */
    private static void dispatchWithoutDistance() {
        Candleford x = ofOffsets(3);
        x.addPlace();
        x.addPlace();
        x.addStreet(2, 3, 9, true);
        x.addHouse(1, 0, 0);
        x.parcel(1, 6, 50);
        Check.unsupported("dispatch, no distance", () -> x.dispatch());
        Check.due("w", "parcelState then", () -> x.parcelState(0));
        Check.due(0, "vanClock then", () -> x.vanClock());
        Check.badDivision("lateShare then", () -> x.lateShare());
        x.parcel(0, 6, 50);
        Check.due(false, "dispatch, another one comes first", () -> x.dispatch());
        Check.due("d", "parcelState of another one", () -> x.parcelState(1));
        Check.unsupported("dispatch, no distance again", () -> x.dispatch());
        Check.due(2, "vanClock then", () -> x.vanClock());
        x.addStreet(3, 0, 1, true);
        Check.due(false, "dispatch over a new street", () -> x.dispatch());
        Check.due(9, "vanClock over a new street", () -> x.vanClock());
    }

    /** dispatch: "if no heavy parcel waits". */
    private static void dispatchOfNone() {
        Candleford x = Villages.ofPlaces(3);
        Check.noSuch("dispatch without parcels", () -> x.dispatch());
        x.addStreet(1, 2, 9, true);
        x.addHouse(0, 0, 0);
        x.parcel(0, 5, 1);
        Check.noSuch("dispatch, none heavy, no distance", () -> x.dispatch());
        x.setBag(4);
        Check.unsupported("dispatch, heavy, no distance", () -> x.dispatch());
        x.setBag(5);
        x.addStreet(0, 1, 9, true);
        Check.noSuch("dispatch, none heavy", () -> x.dispatch());
        x.parcel(0, 6, 1);
        Check.due(true, "dispatch, 6 - 3 and the deadline 1", () -> x.dispatch());
        Check.noSuch("dispatch, all delivered", () -> x.dispatch());
        Check.due(6, "vanClock then", () -> x.vanClock());
        Check.due(1, "late then", () -> x.late());
        Check.due(1.0f, "lateShare then", () -> x.lateShare());
    }

    /** late: "the number of parcels that were late, of all days." */
    private static void lateOfAllDays() {
        Candleford x = ofOffsets(99);
        Check.due(0, "late at first", () -> x.late());
        for (int day = 1; day <= 3; day++) {
            int sum = day;
            x.parcel(0, 6, 1);
            x.parcel(0, 6, 99);
            Check.due(true, "dispatch, 66 - 33 and the deadline 1", () -> x.dispatch());
            Check.due(false, "dispatch, 132 - 33 and the deadline 99", () -> x.dispatch());
            Check.due(sum, "late of all days", () -> x.late());
            x.newDay();
            Check.due(sum, "late on a new day", () -> x.late());
        }
        x.parcel(0, 5, 1);
        x.deliver(0);
        Check.due(3, "late, a round is never late", () -> x.late());
    }

    /** lateShare: "if the van has delivered none". */
    private static void shareOfNone() {
        Candleford x = ofOffsets(99);
        Check.badDivision("lateShare at first", () -> x.lateShare());
        x.parcel(0, 6, 1);
        Check.badDivision("lateShare before the first trip", () -> x.lateShare());
        x.newDay();
        Check.badDivision("lateShare on a new day", () -> x.lateShare());
        x.parcel(0, 5, 1);
        x.deliver(0);
        Check.badDivision("lateShare after a round", () -> x.lateShare());
        x.parcel(0, 6, 999);
        x.dispatch();
        Check.due(0.0f, "lateShare, one in time", () -> x.lateShare());
    }

    /** "their number divided by that of all parcels that it delivered, both converted to float." */
    private static void shareOfAllDays() {
        Candleford x = ofOffsets(99);
        int late = 0;
        for (int day = 1; day <= 7; day++) {
            int deadline = day % 3 == 1 ? 1 : 999;
            late += day % 3 == 1 ? 1 : 0;
            float due = (float) late / (float) day;
            x.parcel(0, 6, deadline);
            x.parcel(0, 5, deadline);
            x.dispatch();
            x.deliver(0);
            Check.due(due, "lateShare on the day " + day, () -> x.lateShare());
            x.newDay();
            Check.due(due, "lateShare after the day " + day, () -> x.lateShare());
        }
        Check.due(3.0f / 7.0f, "lateShare, three of seven", () -> x.lateShare());
    }
}
