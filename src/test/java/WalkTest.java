/** Promises 21 to 30: what a round needs, its walk and its time. */
public final class WalkTest {
    public static void main(String[] args) {
        needed();
        triangle();
        nothingNeeded();
        noWay();
        tooManyPasses();
        manyPasses();
        equalWalks();
        equalWays();
        farAway();
        eachRoundItsOwn();
        time();
        walkTo();
        walkToRefused();
        noSuchRound();
        Check.end();
    }

    private static int[] of(int... numbers) {
        return numbers;
    }

    private static void walkIs(String what, Candleford x, int round, int length, int[] passes, int[] places) {
        Check.due(true, what + ": hasWalk", () -> x.hasWalk(round));
        Check.due(passes.length, what + ": needed", () -> x.needed(round));
        Check.due(length, what + ": walkLength", () -> x.walkLength(round));
        if (passes.length <= 5) {
            Check.due(length, what + ": lengthByTrying", () -> x.lengthByTrying(round));
        } else {
            Check.unsupported(what + ": lengthByTrying", () -> x.lengthByTrying(round));
        }
        for (int i = 0; i < passes.length; i++) {
            int index = i;
            Check.due(passes[i], what + ": passAt " + i, () -> x.passAt(round, index));
        }
        Check.badIndex(what + ": passAt, too high", () -> x.passAt(round, passes.length));
        Check.badIndex(what + ": passAt, negative", () -> x.passAt(round, -1));
        Check.due(places.length, what + ": walkPlaces", () -> x.walkPlaces(round));
        for (int i = 0; i < places.length; i++) {
            int index = i;
            Check.due(places[i], what + ": walkAt " + i, () -> x.walkAt(round, index));
        }
        Check.badIndex(what + ": walkAt, too high", () -> x.walkAt(round, places.length));
        Check.badIndex(what + ": walkAt, negative", () -> x.walkAt(round, -1));
    }

    private static void noWalk(String what, Candleford x, int round) {
        Check.due(false, what + ": hasWalk", () -> x.hasWalk(round));
        Check.badState(what + ": walkLength", () -> x.walkLength(round));
        Check.badState(what + ": lengthByTrying", () -> x.lengthByTrying(round));
        Check.badState(what + ": passAt", () -> x.passAt(round, 0));
        Check.badState(what + ": passAt, before the index", () -> x.passAt(round, -1));
        Check.badState(what + ": walkPlaces", () -> x.walkPlaces(round));
        Check.badState(what + ": walkAt", () -> x.walkAt(round, 0));
        Check.badState(what + ": walkAt, before the index", () -> x.walkAt(round, 99));
        Check.badState(what + ": walkTime", () -> x.walkTime(round));
        Check.due(false, what + ": isInTime", () -> x.isInTime(round));
        Check.badState(what + ": deliver", () -> x.deliver(round));
    }

    /** A triangle of a round: wide 0-1 of 10, narrow 1-2 of 20, wide 2-0 of 15, a house at each side. */
    private static Candleford village() {
        Candleford x = new Candleford();
        x.addPlace();
        x.addPlace();
        x.addStreet(0, 1, 10, true);
        x.addStreet(1, 2, 20, false);
        x.addStreet(2, 0, 15, true);
        x.addHouse(0, 0, 3);
        x.addHouse(0, 1, 7);
        x.addHouse(1, 0, 5);
        x.addHouse(1, 1, 8);
        x.addHouse(2, 0, 14);
        x.addHouse(2, 1, 4);
        x.addRound(90);
        x.assign(0, 0);
        x.assign(1, 0);
        x.assign(2, 0);
        return x;
    }

    private static void needed() {
        Candleford x = village();
        Check.due(0, "needed at first", () -> x.needed(0));
        x.letters(0, 1);
        Check.due(1, "needed: a side of a wide street", () -> x.needed(0));
        x.addHouse(0, 0, 9);
        x.letters(6, 1);
        Check.due(1, "needed: two houses on a side", () -> x.needed(0));
        x.parcel(1, 5, 9);
        Check.due(2, "needed: both sides of a wide street", () -> x.needed(0));
        x.letters(2, 1);
        Check.due(3, "needed: a side of a narrow street", () -> x.needed(0));
        x.letters(3, 1);
        Check.due(3, "needed: both sides of a narrow street", () -> x.needed(0));
        x.parcel(4, 6, 9);
        Check.due(3, "needed: not for a heavy parcel", () -> x.needed(0));
        x.addRound(9);
        x.assign(0, 1);
        Check.due(1, "needed: the streets of the round alone", () -> x.needed(0));
        Check.due(2, "needed of the other round", () -> x.needed(1));
    }

    private static void triangle() {
        Candleford x = village();
        x.letters(0, 1);
        walkIs("side 0", x, 0, 20, of(0), of(0, 1, 0));
        x.letters(2, 1);
        walkIs("around", x, 0, 45, of(0, 2), of(0, 1, 2, 0));
        x.letters(4, 1);
        walkIs("around by three passes", x, 0, 45, of(0, 2, 4), of(0, 1, 2, 0));
        x.letters(1, 1);
        walkIs("both sides of a street", x, 0, 65, of(0, 1, 2, 4), of(0, 1, 0, 1, 2, 0));
        x.deliver(0);
        x.letters(1, 1);
        walkIs("side 1", x, 0, 20, of(1), of(0, 1, 0));
        x.letters(3, 1);
        walkIs("around the other way", x, 0, 45, of(3, 1), of(0, 2, 1, 0));
        x.letters(5, 1);
        walkIs("around the other way by three passes", x, 0, 45, of(5, 3, 1), of(0, 2, 1, 0));
    }

    private static void nothingNeeded() {
        Candleford x = village();
        walkIs("nothing needed", x, 0, 0, of(), of(0));
        Check.due(0, "nothing needed: walkTime", () -> x.walkTime(0));
        Check.due(true, "nothing needed: isInTime", () -> x.isInTime(0));
        x.addRound(1);
        walkIs("no streets", x, 1, 0, of(), of(0));
        Check.due(true, "no streets: isInTime", () -> x.isInTime(1));
    }

    private static void noWay() {
        Candleford x = village();
        x.addPlace();
        x.addPlace();
        x.addStreet(3, 4, 5, true);
        x.addHouse(3, 1, 0);
        x.assign(3, 0);
        x.letters(0, 1);
        walkIs("a street without way and without post", x, 0, 20, of(0), of(0, 1, 0));
        x.letters(6, 1);
        noWalk("no way", x, 0);
        Check.due(2, "no way: needed", () -> x.needed(0));
        Check.badState("no way: walkTo", () -> x.walkTo(0));
        x.addStreet(4, 1, 1, true);
        walkIs("over a street of no round", x, 0, 32, of(0, 7), of(0, 1, 4, 3, 4, 1, 0));
        Candleford y = new Candleford();
        for (int i = 0; i < 2; i++) {
            y.addPlace();
        }
        y.addRound(999);
        for (int street = 0; street < 6; street++) {
            y.addStreet(1, 2, 10, false);
            y.addHouse(street, 0, 0);
            y.assign(street, 0);
            y.letters(street, 1);
        }
        noWalk("six passes without way", y, 0);
    }

    private static void tooManyPasses() {
        Candleford x = new Candleford();
        x.addPlace();
        x.addRound(999);
        for (int street = 0; street < 16; street++) {
            x.addStreet(0, 1, 1 + street, true);
            x.assign(street, 0);
        }
        for (int house = 0; house < 30; house++) {
            x.addHouse(house / 2, house % 2, 0);
        }
        for (int house = 0; house < 8; house++) {
            x.letters(house, 1);
        }
        walkIs("eight passes", x, 0, 20, of(0, 1, 2, 3, 4, 5, 6, 7), of(0, 1, 0, 1, 0, 1, 0, 1, 0));
        Check.due(36, "eight passes: walkTime", () -> x.walkTime(0));
        x.letters(8, 1);
        Check.due(9, "nine passes: needed", () -> x.needed(0));
        noWalk("nine passes", x, 0);
        Check.badState("nine passes: walkTo", () -> x.walkTo(0));
        for (int house = 9; house < 30; house++) {
            x.letters(house, 1);
        }
        Check.due(30, "thirty passes: needed", () -> x.needed(0));
        noWalk("thirty passes", x, 0);
    }

    private static void manyPasses() {
        Candleford x = new Candleford();
        x.addPlace();
        x.addRound(999);
        for (int street = 0; street < 8; street++) {
            x.addStreet(0, 1, 10, false);
            x.addHouse(street, street % 2, 4);
            x.assign(street, 0);
        }
        for (int house = 0; house < 5; house++) {
            x.letters(house, 1);
        }
        walkIs("five passes", x, 0, 60, of(0, 2, 5, 6, 9), of(0, 1, 0, 1, 0, 1, 0));
        x.letters(5, 1);
        walkIs("six passes", x, 0, 60, of(0, 3, 4, 7, 8, 11), of(0, 1, 0, 1, 0, 1, 0));
        x.letters(6, 1);
        walkIs("seven passes", x, 0, 80, of(0, 2, 5, 6, 9, 10, 13), of(0, 1, 0, 1, 0, 1, 0, 1, 0));
        x.letters(7, 1);
        walkIs("eight narrow passes", x, 0, 80, of(0, 3, 4, 7, 8, 11, 12, 15), of(0, 1, 0, 1, 0, 1, 0, 1, 0));
    }

    /** Of walks of the same length, the one with the lower pass where they first differ. */
    private static void equalWalks() {
        Candleford x = new Candleford();
        x.addPlace();
        x.addPlace();
        x.addRound(999);
        x.addStreet(1, 0, 10, false);
        x.addStreet(0, 2, 10, false);
        x.addHouse(0, 0, 4);
        x.addHouse(1, 0, 0);
        x.assign(0, 0);
        x.assign(1, 0);
        x.letters(0, 1);
        walkIs("forward though backward begins nearer", x, 0, 20, of(0), of(0, 1, 0));
        Check.due(14, "walkTo: the way over the same street is no pass", () -> x.walkTo(0));
        x.letters(1, 1);
        walkIs("in the order of numbers", x, 0, 40, of(0, 2), of(0, 1, 0, 2, 0));
        x.addStreet(1, 2, 10, false);
        walkIs("one of two ways around", x, 0, 30, of(1, 3), of(0, 1, 2, 0));
    }

    /** Of ways of the same length, the one with the lower place where they first differ. */
    private static void equalWays() {
        Candleford x = new Candleford();
        for (int i = 0; i < 6; i++) {
            x.addPlace();
        }
        x.addRound(999);
        x.addStreet(0, 3, 2, true);
        x.addStreet(0, 2, 3, true);
        x.addStreet(3, 1, 2, true);
        x.addStreet(2, 1, 1, true);
        x.addStreet(1, 5, 1, true);
        x.addStreet(5, 6, 1, true);
        x.addStreet(1, 6, 2, true);
        x.addStreet(6, 4, 7, true);
        x.addHouse(7, 0, 3);
        x.assign(7, 0);
        x.letters(0, 1);
        walkIs("equal ways", x, 0, 26, of(14), of(0, 2, 1, 5, 6, 4, 6, 1, 2, 0));
        Check.due(9, "equal ways: walkTo", () -> x.walkTo(0));
    }

    /** A chain of all places, and eight passes at its end that are joined by ways only. */
    private static void farAway() {
        Candleford x = new Candleford();
        for (int place = 0; place < 9; place++) {
            x.addPlace();
            x.addStreet(place, place + 1, 99, true);
        }
        x.addRound(999);
        x.addHouse(8, 0, 0);
        for (int i = 0; i < 7; i++) {
            x.addStreet(9, 8, 98, true);
            x.addHouse(9 + i, 0, 98);
        }
        for (int i = 0; i < 8; i++) {
            x.assign(8 + i, 0);
            x.letters(i, 1);
        }
        int[] places = of(0, 1, 2, 3, 4, 5, 6, 7, 8, 9, 8, 9, 8, 9, 8, 9, 8, 9, 8, 9, 8, 9, 8, 7, 6, 5, 4, 3, 2, 1, 0);
        walkIs("far away", x, 0, 792 + 99 + 13 * 98 + 792, of(16, 18, 20, 22, 24, 26, 28, 30), places);
        Check.due(792, "far away: walkTo the first", () -> x.walkTo(0));
        Check.due(792 + 99 + 13 * 98, "far away: walkTo the last", () -> x.walkTo(7));
        Check.due(792 + 99 + 13 * 98 + 792 + 16, "far away: walkTime", () -> x.walkTime(0));
        Check.due(false, "far away: isInTime", () -> x.isInTime(0));
    }

    /** Each call answers for its round, whatever was asked before of another one. */
    private static void eachRoundItsOwn() {
        Candleford x = village();
        x.addRound(90);
        x.assign(2, 1);
        x.letters(0, 1);
        x.letters(2, 1);
        x.letters(4, 1);
        for (int i = 0; i < 2; i++) {
            Check.due(4, "walkPlaces of the one", () -> x.walkPlaces(0));
            Check.due(3, "walkPlaces of the other", () -> x.walkPlaces(1));
            Check.due(1, "walkAt of the one", () -> x.walkAt(0, 1));
            Check.due(2, "walkAt of the other", () -> x.walkAt(1, 1));
            Check.due(0, "passAt of the one", () -> x.passAt(0, 0));
            Check.due(4, "passAt of the other", () -> x.passAt(1, 0));
            Check.due(15, "walkTo of the one", () -> x.walkTo(2));
            Check.due(29, "walkTo of the other", () -> x.walkTo(4));
            Check.due(45, "walkLength of the one", () -> x.walkLength(0));
            Check.due(30, "walkLength of the other", () -> x.walkLength(1));
        }
    }

    private static void time() {
        Candleford x = village();
        x.letters(0, 20);
        Check.due(22, "walkTime: 2 for a house", () -> x.walkTime(0));
        x.parcel(0, 1, 9);
        x.parcel(0, 5, 9);
        Check.due(24, "walkTime: 1 for each parcel", () -> x.walkTime(0));
        x.parcel(0, 6, 9);
        x.parcel(4, 6, 9);
        Check.due(24, "walkTime: not for heavy parcels", () -> x.walkTime(0));
        x.addStreet(0, 2, 99, true);
        x.addHouse(3, 0, 0);
        x.parcel(6, 1, 9);
        x.letters(6, 1);
        Check.due(24, "walkTime: not for houses of no round", () -> x.walkTime(0));
        x.addRound(24);
        x.addRound(23);
        x.assign(0, 1);
        Check.due(24, "walkTime of a round of its own", () -> x.walkTime(1));
        Check.due(true, "isInTime, at the limit", () -> x.isInTime(1));
        x.assign(0, 2);
        Check.due(false, "isInTime, over the limit", () -> x.isInTime(2));
        x.setBag(4);
        Check.due(23, "walkTime with a smaller bag", () -> x.walkTime(2));
        Check.due(true, "isInTime with a smaller bag", () -> x.isInTime(2));
        x.setBag(6);
        Check.due(25, "walkTime with a greater bag", () -> x.walkTime(2));
        x.deliver(0);
        x.assign(0, 0);
        x.deliver(0);
        x.letters(0, 1);
        Check.due(22, "walkTime: not for parcels that are delivered", () -> x.walkTime(0));
    }

    private static void walkTo() {
        Candleford x = village();
        x.letters(0, 1);
        Check.due(3, "walkTo by a pass forward", () -> x.walkTo(0));
        x.addHouse(0, 0, 3);
        x.parcel(6, 1, 9);
        Check.due(3, "walkTo a second house at the same offset", () -> x.walkTo(6));
        x.letters(3, 1);
        Check.due(18, "walkTo by a narrow pass forward", () -> x.walkTo(3));
        x.letters(4, 1);
        Check.due(44, "walkTo by the last pass", () -> x.walkTo(4));
        x.deliver(0);
        x.letters(1, 1);
        Check.due(13, "walkTo: the way forward does not pass", () -> x.walkTo(1));
        x.letters(2, 1);
        Check.due(30, "walkTo by a narrow pass backward", () -> x.walkTo(2));
        Check.due(38, "walkTo by the pass after it", () -> x.walkTo(1));
        x.letters(5, 1);
        Check.due(11, "walkTo by a wide pass backward", () -> x.walkTo(5));
        x.deliver(0);
        x.letters(0, 1);
        x.letters(1, 1);
        x.letters(2, 1);
        Check.due(3, "walkTo, side 0 of both", () -> x.walkTo(0));
        Check.due(53, "walkTo, side 1 of both, after a way back over the narrow street", () -> x.walkTo(1));
    }

    private static void walkToRefused() {
        Candleford x = village();
        x.addStreet(0, 1, 10, true);
        x.addHouse(3, 0, 0);
        Check.noSuch("walkTo: house 7", () -> x.walkTo(7));
        Check.noSuch("walkTo: house -1", () -> x.walkTo(-1));
        Check.unsupported("walkTo: not due", () -> x.walkTo(0));
        x.parcel(0, 6, 9);
        Check.unsupported("walkTo: a heavy parcel", () -> x.walkTo(0));
        x.letters(6, 1);
        Check.unsupported("walkTo: in no round", () -> x.walkTo(6));
        x.assign(3, 0);
        Check.due(0, "walkTo at the offset 0", () -> x.walkTo(6));
        x.addPlace();
        x.addPlace();
        x.addStreet(3, 4, 9, true);
        x.addHouse(4, 0, 0);
        x.assign(4, 0);
        x.letters(7, 1);
        Check.badState("walkTo: no walk", () -> x.walkTo(6));
        Check.unsupported("walkTo: not due, before no walk", () -> x.walkTo(0));
    }

    private static void noSuchRound() {
        Candleford x = village();
        for (int bad : of(-1, 1, 4, Integer.MAX_VALUE, Integer.MIN_VALUE)) {
            Check.noSuch("needed(" + bad + ")", () -> x.needed(bad));
            Check.noSuch("hasWalk(" + bad + ")", () -> x.hasWalk(bad));
            Check.noSuch("walkLength(" + bad + ")", () -> x.walkLength(bad));
            Check.noSuch("lengthByTrying(" + bad + ")", () -> x.lengthByTrying(bad));
            Check.noSuch("passAt(" + bad + ", -1)", () -> x.passAt(bad, -1));
            Check.noSuch("walkPlaces(" + bad + ")", () -> x.walkPlaces(bad));
            Check.noSuch("walkAt(" + bad + ", -1)", () -> x.walkAt(bad, -1));
            Check.noSuch("walkTime(" + bad + ")", () -> x.walkTime(bad));
            Check.noSuch("isInTime(" + bad + ")", () -> x.isInTime(bad));
        }
    }
}
