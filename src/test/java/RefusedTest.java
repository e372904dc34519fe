/**
 * "A method that throws an exception changes nothing. If several exceptions apply, the one that is listed first is
 * thrown." Each exception of each member of the face, at the edge and at the least and the greatest int; after each
 * refused call the village shows the same as one without that call.
 */
public final class RefusedTest {
    private interface Make {
        Candleford village();
    }

    private interface On {
        Object answer(Candleford x);
    }

    private interface OnNumber {
        Object answer(Candleford x, int number);
    }

    /** How many there are of each, so that the number of none is known. */
    private record Kind(String name, Make make, int places, int streets, int houses, int rounds, int parcels) {
    }

    private static final Kind EMPTY = new Kind("empty", Candleford::new, 1, 0, 0, 0, 0);
    private static final Kind ORDINARY = new Kind("ordinary", Villages::ordinary, 4, 4, 6, 3, 5);
    private static final Kind FULL = new Kind("full", Villages::full, 10, 16, 30, 4, 20);
    private static final Kind STUCK = new Kind("stuck", Villages::stuck, 4, 16, 26, 4, 4);
    private static final Kind TIGHT = new Kind("tight", Villages::tight, 3, 2, 2, 2, 2);
    private static final Kind PARALLEL = new Kind("parallel", Villages::fiveAndFour, 2, 9, 9, 4, 2);
    private static final Kind NONE_DUE = new Kind("none due", Villages::noneDue, 2, 1, 2, 1, 2);
    private static final Kind NO_TRIPS = new Kind("no trips", Villages::noTrips, 2, 1, 2, 1, 3);

    private static final String NO_SUCH = "throws.NoSuchElementException";
    private static final String ARGUMENT = "throws.IllegalArgumentException";
    private static final String STATE = "throws.IllegalStateException";
    private static final String INDEX = "throws.IndexOutOfBoundsException";
    private static final String UNSUPPORTED = "throws.UnsupportedOperationException";
    private static final String DIVISION = "throws.ArithmeticException";

    public static void main(String[] args) {
        for (Kind kind : new Kind[] {EMPTY, ORDINARY, FULL}) {
            noSuchPlace(kind);
            noSuchStreet(kind);
            noSuchHouse(kind);
            noSuchRound(kind);
            noSuchParcel(kind);
        }
        nothingYet();
        streetOutOfRange(ORDINARY);
        streetOutOfRange(FULL);
        houseOutOfRange(ORDINARY);
        houseOutOfRange(FULL);
        numbersOutOfRange(ORDINARY);
        numbersOutOfRange(FULL);
        postOutOfRange(ORDINARY);
        postOutOfRange(FULL);
        noMoreOfAnything();
        noSuchRank();
        noSuchIndex();
        noWalk();
        tooManyToTry();
        walkToRefused();
        notInTime();
        sameRounds();
        noWalkTogether();
        noMerge();
        vanRefused();
        noneDue();
        questionsChangeNothing();
        Check.end();
    }

    /** A call is refused as is due, and leaves no trace. */
    private static void refused(String want, Kind kind, String what, On call) {
        String label = kind.name + ": " + what;
        Candleford asked = kind.make.village();
        Check.due(want, label, () -> call.answer(asked));
        for (Shown.Part part : Shown.PARTS) {
            Candleford same = kind.make.village();
            Check.answerOf(() -> call.answer(same));
            Check.due(Shown.of(kind.make.village(), part), label + ", what is shown then", () -> Shown.of(same, part));
        }
    }

    /** The same for each number outside a range. */
    private static void refusedOutside(int least, int greatest, String want, Kind kind, String what, OnNumber call) {
        for (int number : Check.outside(least, greatest)) {
            refused(want, kind, what + " with " + number, x -> call.answer(x, number));
        }
    }

    private static void noSuchPlace(Kind kind) {
        int last = kind.places - 1;
        refusedOutside(0, last, NO_SUCH, kind, "addStreet, the first end", (x, n) -> x.addStreet(n, 0, 5, true));
        refusedOutside(0, last, NO_SUCH, kind, "addStreet, the second end", (x, n) -> x.addStreet(0, n, 5, true));
        refusedOutside(0, last, NO_SUCH, kind, "addStreet, both ends the same", (x, n) -> x.addStreet(n, n, 5, true));
        refusedOutside(0, last, NO_SUCH, kind, "addStreet, first the length", (x, n) -> x.addStreet(n, 0, 0, true));
        refusedOutside(0, last, NO_SUCH, kind, "addStreet, second the length", (x, n) -> x.addStreet(0, n, 100, true));
        refusedOutside(0, last, NO_SUCH, kind, "distance, the one", (x, n) -> x.distance(n, 0));
        refusedOutside(0, last, NO_SUCH, kind, "distance, the other", (x, n) -> x.distance(0, n));
        refusedOutside(0, last, NO_SUCH, kind, "distance, both the same", (x, n) -> x.distance(n, n));
        refusedOutside(0, last, NO_SUCH, kind, "distanceByRounds, the one", (x, n) -> x.distanceByRounds(n, 0));
        refusedOutside(0, last, NO_SUCH, kind, "distanceByRounds, the other", (x, n) -> x.distanceByRounds(0, n));
        refusedOutside(0, last, NO_SUCH, kind, "distanceByRounds, both", (x, n) -> x.distanceByRounds(n, n));
    }

    private static void noSuchStreet(Kind kind) {
        int last = kind.streets - 1;
        refusedOutside(0, last, NO_SUCH, kind, "addHouse", (x, n) -> x.addHouse(n, 0, 0));
        refusedOutside(0, last, NO_SUCH, kind, "addHouse, the side too", (x, n) -> x.addHouse(n, 2, 0));
        refusedOutside(0, last, NO_SUCH, kind, "addHouse, the offset too", (x, n) -> x.addHouse(n, 0, -1));
        refusedOutside(0, last, NO_SUCH, kind, "assign, the street", (x, n) -> x.assign(n, 0));
        refusedOutside(0, last, NO_SUCH, kind, "assign, the round too", (x, n) -> x.assign(n, -1));
        refusedOutside(0, last, NO_SUCH, kind, "roundOf", (x, n) -> x.roundOf(n));
        refusedOutside(0, last, NO_SUCH, kind, "houseAt", (x, n) -> x.houseAt(n, 0, 0));
        refusedOutside(0, last, NO_SUCH, kind, "houseAt, the side too", (x, n) -> x.houseAt(n, -1, 0));
        refusedOutside(0, last, NO_SUCH, kind, "houseAt, the rank too", (x, n) -> x.houseAt(n, 0, -1));
        refusedOutside(0, last, NO_SUCH, kind, "houseAt, all three", (x, n) -> x.houseAt(n, 2, 30));
    }

    private static void noSuchHouse(Kind kind) {
        int last = kind.houses - 1;
        refusedOutside(0, last, NO_SUCH, kind, "letters", (x, n) -> x.letters(n, 1));
        refusedOutside(0, last, NO_SUCH, kind, "letters, too few too", (x, n) -> x.letters(n, 0));
        refusedOutside(0, last, NO_SUCH, kind, "letters, too many too", (x, n) -> x.letters(n, 21));
        refusedOutside(0, last, NO_SUCH, kind, "parcel", (x, n) -> x.parcel(n, 1, 1));
        refusedOutside(0, last, NO_SUCH, kind, "parcel, the weight too", (x, n) -> x.parcel(n, 0, 1));
        refusedOutside(0, last, NO_SUCH, kind, "parcel, the deadline too", (x, n) -> x.parcel(n, 1, 1000));
        refusedOutside(0, last, NO_SUCH, kind, "lettersOf", (x, n) -> x.lettersOf(n));
        refusedOutside(0, last, NO_SUCH, kind, "isDue", (x, n) -> x.isDue(n));
        refusedOutside(0, last, NO_SUCH, kind, "walkTo", (x, n) -> x.walkTo(n));
    }

    private static void noSuchRound(Kind kind) {
        int last = kind.rounds - 1;
        refusedOutside(0, last, NO_SUCH, kind, "assign, the round", (x, n) -> x.assign(0, n));
        refusedOutside(0, last, NO_SUCH, kind, "due", (x, n) -> x.due(n));
        refusedOutside(0, last, NO_SUCH, kind, "needed", (x, n) -> x.needed(n));
        refusedOutside(0, last, NO_SUCH, kind, "hasWalk", (x, n) -> x.hasWalk(n));
        refusedOutside(0, last, NO_SUCH, kind, "walkLength", (x, n) -> x.walkLength(n));
        refusedOutside(0, last, NO_SUCH, kind, "lengthByTrying", (x, n) -> x.lengthByTrying(n));
        refusedOutside(0, last, NO_SUCH, kind, "passAt", (x, n) -> x.passAt(n, 0));
        refusedOutside(0, last, NO_SUCH, kind, "passAt, the index too", (x, n) -> x.passAt(n, -1));
        refusedOutside(0, last, NO_SUCH, kind, "walkPlaces", (x, n) -> x.walkPlaces(n));
        refusedOutside(0, last, NO_SUCH, kind, "walkAt", (x, n) -> x.walkAt(n, 0));
        refusedOutside(0, last, NO_SUCH, kind, "walkAt, the index too", (x, n) -> x.walkAt(n, -1));
        refusedOutside(0, last, NO_SUCH, kind, "walkTime", (x, n) -> x.walkTime(n));
        refusedOutside(0, last, NO_SUCH, kind, "isInTime", (x, n) -> x.isInTime(n));
        refusedOutside(0, last, NO_SUCH, kind, "deliver", (x, n) -> x.deliver(n));
        refusedOutside(0, last, NO_SUCH, kind, "saving, the one", (x, n) -> x.saving(n, 0));
        refusedOutside(0, last, NO_SUCH, kind, "saving, the other", (x, n) -> x.saving(0, n));
        refusedOutside(0, last, NO_SUCH, kind, "saving, both the same", (x, n) -> x.saving(n, n));
        refusedOutside(0, last, NO_SUCH, kind, "mergeInto, the one", (x, n) -> x.mergeInto(n, 0));
        refusedOutside(0, last, NO_SUCH, kind, "mergeInto, the other", (x, n) -> x.mergeInto(0, n));
        refusedOutside(0, last, NO_SUCH, kind, "mergeInto, both the same", (x, n) -> x.mergeInto(n, n));
    }

    private static void noSuchParcel(Kind kind) {
        int last = kind.parcels - 1;
        refusedOutside(0, last, NO_SUCH, kind, "parcelState", (x, n) -> x.parcelState(n));
        refusedOutside(0, last, NO_SUCH, kind, "isHeavy", (x, n) -> x.isHeavy(n));
        refusedOutside(0, last, NO_SUCH, kind, "tripOf", (x, n) -> x.tripOf(n));
    }

    private static void nothingYet() {
        refused(NO_SUCH, EMPTY, "bestMerge without rounds", x -> x.bestMerge());
        refused(NO_SUCH, EMPTY, "nextParcel without parcels", x -> x.nextParcel());
        refused(NO_SUCH, EMPTY, "dispatch without parcels", x -> x.dispatch());
        refused(DIVISION, EMPTY, "lateShare without parcels", x -> x.lateShare());
        refused(DIVISION, EMPTY, "meanLetters without houses", x -> x.meanLetters());
        refused(ARGUMENT, EMPTY, "addStreet from the post office to itself", x -> x.addStreet(0, 0, 5, true));
        refusedOutside(1, 999, ARGUMENT, EMPTY, "addRound", (x, n) -> x.addRound(n));
        refusedOutside(0, 99, ARGUMENT, EMPTY, "setBag", (x, n) -> x.setBag(n));
    }

    /** In a full village too, where IllegalStateException is listed later. */
    private static void streetOutOfRange(Kind kind) {
        int last = kind.places - 1;
        refusedOutside(1, 99, ARGUMENT, kind, "addStreet, the length", (x, n) -> x.addStreet(0, 1, n, true));
        refusedOutside(1, 99, ARGUMENT, kind, "addStreet, the length, narrow", (x, n) -> x.addStreet(1, 0, n, false));
        refused(ARGUMENT, kind, "addStreet, the same ends", x -> x.addStreet(1, 1, 5, true));
        refused(ARGUMENT, kind, "addStreet, both ends the post office", x -> x.addStreet(0, 0, 5, true));
        refused(ARGUMENT, kind, "addStreet, both ends the last place", x -> x.addStreet(last, last, 5, true));
        refused(ARGUMENT, kind, "addStreet, the same ends and the length", x -> x.addStreet(1, 1, 0, true));
    }

    private static void houseOutOfRange(Kind kind) {
        int length = kind == FULL ? 1 : 10;
        refusedOutside(0, 1, ARGUMENT, kind, "addHouse, the side", (x, n) -> x.addHouse(0, n, 0));
        refusedOutside(0, length, ARGUMENT, kind, "addHouse, the offset", (x, n) -> x.addHouse(0, 0, n));
        refusedOutside(0, length, ARGUMENT, kind, "addHouse, the offset on side 1", (x, n) -> x.addHouse(0, 1, n));
        refusedOutside(0, 1, ARGUMENT, kind, "addHouse, the side and the offset", (x, n) -> x.addHouse(0, n, -1));
        refusedOutside(0, 1, ARGUMENT, kind, "houseAt, the side", (x, n) -> x.houseAt(0, n, 0));
        refusedOutside(0, 1, ARGUMENT, kind, "houseAt, the side and the rank", (x, n) -> x.houseAt(0, n, 30));
    }

    private static void numbersOutOfRange(Kind kind) {
        refusedOutside(1, 999, ARGUMENT, kind, "addRound", (x, n) -> x.addRound(n));
        refusedOutside(0, 99, ARGUMENT, kind, "setBag", (x, n) -> x.setBag(n));
    }

    private static void postOutOfRange(Kind kind) {
        int last = kind.houses - 1;
        refusedOutside(1, 20, ARGUMENT, kind, "letters", (x, n) -> x.letters(0, n));
        refusedOutside(1, 20, ARGUMENT, kind, "letters for the last house", (x, n) -> x.letters(last, n));
        refusedOutside(1, 99, ARGUMENT, kind, "parcel, the weight", (x, n) -> x.parcel(last, n, 1));
        refusedOutside(1, 999, ARGUMENT, kind, "parcel, the deadline", (x, n) -> x.parcel(last, 1, n));
        refusedOutside(1, 99, ARGUMENT, kind, "parcel, the weight and the deadline", (x, n) -> x.parcel(0, n, 0));
    }

    private static void noMoreOfAnything() {
        refused(STATE, FULL, "addPlace", x -> x.addPlace());
        refused(STATE, FULL, "addStreet", x -> x.addStreet(0, 9, 1, true));
        refused(STATE, FULL, "addStreet, the longest", x -> x.addStreet(9, 0, 99, false));
        refused(STATE, FULL, "addHouse", x -> x.addHouse(0, 0, 0));
        refused(STATE, FULL, "addHouse at the last street", x -> x.addHouse(15, 1, 16));
        refused(STATE, STUCK, "addStreet where a place more can be", x -> x.addStreet(0, 1, 1, true));
        refused(STATE, STUCK, "addRound where a place more can be", x -> x.addRound(1));
        refused(STATE, FULL, "addRound, the least limit", x -> x.addRound(1));
        refused(STATE, FULL, "addRound, the greatest limit", x -> x.addRound(999));
        refused(STATE, FULL, "parcel", x -> x.parcel(0, 1, 1));
        refused(STATE, FULL, "parcel, the heaviest", x -> x.parcel(29, 99, 999));
        refused(STATE, FULL, "letters, the 100th", x -> x.letters(29, 1));
        refused(STATE, FULL, "letters, 20 to 80", x -> x.letters(0, 20));
        refused(STATE, FULL, "letters, 20 to 99", x -> x.letters(29, 20));
    }

    private static void noSuchRank() {
        refusedOutside(0, 1, INDEX, ORDINARY, "houseAt, the rank of two", (x, n) -> x.houseAt(0, 0, n));
        refusedOutside(0, 0, INDEX, ORDINARY, "houseAt, the rank of one", (x, n) -> x.houseAt(0, 1, n));
        refusedOutside(0, -1, INDEX, ORDINARY, "houseAt, the rank of none", (x, n) -> x.houseAt(3, 1, n));
        refusedOutside(0, 0, INDEX, FULL, "houseAt, the rank at the last street", (x, n) -> x.houseAt(15, 0, n));
    }

    private static void noSuchIndex() {
        refusedOutside(0, 2, INDEX, ORDINARY, "passAt of three passes", (x, n) -> x.passAt(0, n));
        refusedOutside(0, 5, INDEX, STUCK, "passAt of six passes", (x, n) -> x.passAt(3, n));
        refusedOutside(0, -1, INDEX, ORDINARY, "passAt of none", (x, n) -> x.passAt(2, n));
        refusedOutside(0, 0, INDEX, ORDINARY, "walkAt of the post office alone", (x, n) -> x.walkAt(2, n));
        refusedOutside(0, 2, INDEX, ORDINARY, "walkAt of one pass and a way", (x, n) -> x.walkAt(1, n));
        refusedOutside(0, 6, INDEX, STUCK, "walkAt of six passes", (x, n) -> x.walkAt(3, n));
    }

    /** The round 1 has no way to its six passes, the round 2 needs nine. */
    private static void noWalk() {
        for (int round = 1; round <= 2; round++) {
            int number = round;
            String of = " of " + round;
            refused(STATE, STUCK, "walkLength" + of, x -> x.walkLength(number));
            refused(STATE, STUCK, "lengthByTrying, before too many passes," + of, x -> x.lengthByTrying(number));
            refused(STATE, STUCK, "passAt" + of, x -> x.passAt(number, 0));
            refused(STATE, STUCK, "walkPlaces" + of, x -> x.walkPlaces(number));
            refused(STATE, STUCK, "walkAt" + of, x -> x.walkAt(number, 0));
            refused(STATE, STUCK, "walkTime" + of, x -> x.walkTime(number));
            refused(STATE, STUCK, "deliver" + of, x -> x.deliver(number));
            refused(STATE, STUCK, "saving, the one" + of, x -> x.saving(number, 0));
            refused(STATE, STUCK, "saving, the other" + of, x -> x.saving(0, number));
            refused(STATE, STUCK, "saving, both" + of, x -> x.saving(number, 3 - number));
            refused(STATE, STUCK, "mergeInto, the one" + of, x -> x.mergeInto(number, 0));
            refused(STATE, STUCK, "mergeInto, the other" + of, x -> x.mergeInto(0, number));
            refused(STATE, STUCK, "mergeInto, both" + of, x -> x.mergeInto(number, 3 - number));
            refusedOutside(0, -1, STATE, STUCK, "passAt, no index" + of, (x, n) -> x.passAt(number, n));
            refusedOutside(0, -1, STATE, STUCK, "walkAt, no index" + of, (x, n) -> x.walkAt(number, n));
        }
    }

    private static void tooManyToTry() {
        refused(UNSUPPORTED, STUCK, "lengthByTrying of six passes", x -> x.lengthByTrying(3));
    }

    private static void walkToRefused() {
        refused(UNSUPPORTED, STUCK, "walkTo a house that is not due", x -> x.walkTo(23));
        refused(UNSUPPORTED, STUCK, "walkTo a house that is not due, no way", x -> x.walkTo(24));
        refused(UNSUPPORTED, STUCK, "walkTo a house that is not due, nine passes", x -> x.walkTo(25));
        refused(UNSUPPORTED, STUCK, "walkTo a house of no round", x -> x.walkTo(22));
        refused(UNSUPPORTED, ORDINARY, "walkTo a house of no round", x -> x.walkTo(4));
        refused(UNSUPPORTED, ORDINARY, "walkTo a house that is not due", x -> x.walkTo(5));
        refused(STATE, STUCK, "walkTo, no way", x -> x.walkTo(1));
        refused(STATE, STUCK, "walkTo, nine passes", x -> x.walkTo(7));
    }

    private static void notInTime() {
        refused(STATE, TIGHT, "deliver, 23 minutes of 22", x -> x.deliver(0));
        refused(STATE, TIGHT, "deliver, 42 minutes of 41", x -> x.deliver(1));
        refused(STATE, TIGHT, "mergeInto, 45 minutes of 22", x -> x.mergeInto(0, 1));
        refused(STATE, TIGHT, "mergeInto, 45 minutes of 41", x -> x.mergeInto(1, 0));
    }

    private static void sameRounds() {
        for (Kind kind : new Kind[] {ORDINARY, FULL, STUCK, TIGHT}) {
            for (int round = 0; round < kind.rounds; round++) {
                int number = round;
                refused(ARGUMENT, kind, "saving of " + round + " twice", x -> x.saving(number, number));
                refused(ARGUMENT, kind, "mergeInto of " + round + " twice", x -> x.mergeInto(number, number));
            }
        }
    }

    /** Five and four passes. */
    private static void noWalkTogether() {
        refused(STATE, PARALLEL, "saving, nine together", x -> x.saving(0, 1));
        refused(STATE, PARALLEL, "saving, nine together, the other way", x -> x.saving(1, 0));
        refused(STATE, PARALLEL, "mergeInto, nine together", x -> x.mergeInto(0, 1));
        refused(STATE, PARALLEL, "mergeInto, nine together, the other way", x -> x.mergeInto(1, 0));
    }

    private static void noMerge() {
        refused(NO_SUCH, TIGHT, "bestMerge, none in time", x -> x.bestMerge());
        refused(NO_SUCH, PARALLEL, "bestMerge, nine together", x -> x.bestMerge());
        refused(NO_SUCH, NONE_DUE, "bestMerge, no house due", x -> x.bestMerge());
    }

    private static void vanRefused() {
        refused(UNSUPPORTED, STUCK, "tripOf, no way", x -> x.tripOf(1));
        refused(UNSUPPORTED, STUCK, "dispatch, no way", x -> x.dispatch());
        refused(NO_SUCH, TIGHT, "nextParcel, none waits that is heavy", x -> x.nextParcel());
        refused(NO_SUCH, TIGHT, "dispatch, none waits that is heavy", x -> x.dispatch());
        refused(DIVISION, NO_TRIPS, "lateShare before the first trip", x -> x.lateShare());
    }

    private static void noneDue() {
        refused(DIVISION, NONE_DUE, "meanLetters, no house due", x -> x.meanLetters());
        refused(UNSUPPORTED, NONE_DUE, "walkTo, no house due", x -> x.walkTo(0));
        refused(INDEX, NONE_DUE, "passAt, no house due", x -> x.passAt(0, 0));
    }

    private static void questionsChangeNothing() {
        for (Make make : new Make[] {Villages::ordinary, Villages::evening}) {
            for (Shown.Part question : Shown.QUESTIONS) {
                for (Shown.Part part : Shown.PARTS) {
                    Candleford asked = make.village();
                    Shown.of(asked, question);
                    Check.due(Shown.of(make.village(), part), "what is shown after questions",
                            () -> Shown.of(asked, part));
                }
            }
        }
    }
}
