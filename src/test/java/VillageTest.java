/** Promises 1 to 6, 11 to 15, 19 and 20: places, streets, houses, rounds and distances. */
public final class VillageTest {
    public static void main(String[] args) {
        newObject();
        addPlace();
        addStreet();
        addHouse();
        addRound();
        assignAndRoundOf();
        houseAt();
        distances();
        Check.end();
    }

    private static void newObject() {
        Candleford x = new Candleford();
        Check.due(1, "new: places", () -> x.places());
        Check.due(0, "new: streets", () -> x.streets());
        Check.due(0, "new: houses", () -> x.houses());
        Check.due(0, "new: vanClock", () -> x.vanClock());
        Check.due(0, "new: late", () -> x.late());
        Check.due(0, "new: walked", () -> x.walked());
        Check.due(5, "new: the bag", () -> x.setBag(5));
        Check.due(0, "new: distance(0, 0)", () -> x.distance(0, 0));
        Check.noSuch("new: no round", () -> x.due(0));
        Check.noSuch("new: no parcel", () -> x.parcelState(0));
    }

    private static void addPlace() {
        Candleford x = new Candleford();
        for (int place = 1; place <= 9; place++) {
            Check.due(place, "addPlace", () -> x.addPlace());
            Check.due(place + 1, "places", () -> x.places());
        }
        Check.badState("addPlace, the 11th", () -> x.addPlace());
        Check.due(10, "places after a refused one", () -> x.places());
    }

    private static void addStreet() {
        Candleford x = new Candleford();
        x.addPlace();
        Check.noSuch("addStreet: first too high", () -> x.addStreet(2, 0, 5, true));
        Check.noSuch("addStreet: second too high", () -> x.addStreet(0, 2, 5, true));
        Check.noSuch("addStreet: first negative", () -> x.addStreet(-1, 0, 5, true));
        Check.noSuch("addStreet: second negative", () -> x.addStreet(0, -1, 5, true));
        Check.noSuch("addStreet: no such place before the same", () -> x.addStreet(2, 2, 5, true));
        Check.noSuch("addStreet: no such place before the length", () -> x.addStreet(0, 2, 0, true));
        Check.badArgument("addStreet: the same", () -> x.addStreet(1, 1, 5, true));
        Check.badArgument("addStreet: length 0", () -> x.addStreet(0, 1, 0, true));
        Check.badArgument("addStreet: length 100", () -> x.addStreet(0, 1, 100, true));
        Check.badArgument("addStreet: least length", () -> x.addStreet(0, 1, Integer.MIN_VALUE, true));
        Check.due(0, "streets after refused ones", () -> x.streets());
        Check.due(-1, "distance after refused ones", () -> x.distance(0, 1));
        for (int street = 0; street < 16; street++) {
            int number = street;
            int length = street % 2 == 0 ? 99 : 50;
            Check.due(street, "addStreet", () -> x.addStreet(0, 1, length, number % 3 == 0));
            Check.due(street + 1, "streets", () -> x.streets());
        }
        Check.badState("addStreet, the 17th", () -> x.addStreet(0, 1, 1, true));
        Check.badArgument("addStreet: the length before the number", () -> x.addStreet(0, 1, 100, true));
        Check.noSuch("addStreet: the place before the number", () -> x.addStreet(0, 5, 1, true));
        Check.due(16, "streets after a refused one", () -> x.streets());
        Check.due(50, "distance after a refused one", () -> x.distance(0, 1));
        Check.due(50, "distanceByRounds after a refused one", () -> x.distanceByRounds(0, 1));
        Candleford y = new Candleford();
        y.addPlace();
        Check.due(0, "addStreet: length 1", () -> y.addStreet(1, 0, 1, false));
        Check.due(1, "distance over length 1", () -> y.distance(0, 1));
    }

    private static void addHouse() {
        Candleford x = new Candleford();
        x.addPlace();
        Check.noSuch("addHouse: no street yet", () -> x.addHouse(0, 0, 0));
        x.addStreet(0, 1, 10, true);
        Check.noSuch("addHouse: street 1", () -> x.addHouse(1, 0, 0));
        Check.noSuch("addHouse: street -1", () -> x.addHouse(-1, 0, 0));
        Check.noSuch("addHouse: the street before the side", () -> x.addHouse(1, 2, 0));
        Check.badArgument("addHouse: side 2", () -> x.addHouse(0, 2, 0));
        Check.badArgument("addHouse: side -1", () -> x.addHouse(0, -1, 0));
        Check.badArgument("addHouse: offset -1", () -> x.addHouse(0, 0, -1));
        Check.badArgument("addHouse: offset 11", () -> x.addHouse(0, 0, 11));
        Check.due(0, "houses after refused ones", () -> x.houses());
        for (int house = 0; house < 30; house++) {
            int side = house % 2;
            int offset = house % 11;
            Check.due(house, "addHouse", () -> x.addHouse(0, side, offset));
            Check.due(house + 1, "houses", () -> x.houses());
        }
        Check.badState("addHouse, the 31st", () -> x.addHouse(0, 0, 0));
        Check.badArgument("addHouse: the side before the number", () -> x.addHouse(0, 2, 0));
        Check.noSuch("addHouse: the street before the number", () -> x.addHouse(1, 0, 0));
        Check.due(30, "houses after a refused one", () -> x.houses());
    }

    private static void addRound() {
        Candleford x = new Candleford();
        Check.badArgument("addRound: limit 0", () -> x.addRound(0));
        Check.badArgument("addRound: limit 1000", () -> x.addRound(1000));
        Check.badArgument("addRound: limit -5", () -> x.addRound(-5));
        Check.noSuch("no round after refused ones", () -> x.due(0));
        Check.due(0, "addRound(1)", () -> x.addRound(1));
        Check.due(1, "addRound(999)", () -> x.addRound(999));
        Check.due(2, "addRound", () -> x.addRound(1));
        Check.due(3, "addRound", () -> x.addRound(1));
        Check.badState("addRound, the 5th", () -> x.addRound(1));
        Check.badArgument("addRound: the limit before the number", () -> x.addRound(0));
        Check.noSuch("no round 4", () -> x.due(4));
        Check.due(0, "a round without streets is due at none", () -> x.due(3));
    }

    private static void assignAndRoundOf() {
        Candleford x = new Candleford();
        x.addPlace();
        x.addStreet(0, 1, 5, true);
        x.addStreet(0, 1, 6, true);
        Check.noSuch("assign: no round yet", () -> x.assign(0, 0));
        x.addRound(9);
        x.addRound(9);
        Check.due(-1, "roundOf, at first", () -> x.roundOf(0));
        Check.due(-1, "assign, the first time", () -> x.assign(0, 1));
        Check.due(1, "roundOf", () -> x.roundOf(0));
        Check.due(-1, "roundOf another street", () -> x.roundOf(1));
        Check.due(1, "assign again", () -> x.assign(0, 1));
        Check.due(1, "assign to another", () -> x.assign(0, 0));
        Check.due(0, "roundOf then", () -> x.roundOf(0));
        Check.noSuch("assign: street 2", () -> x.assign(2, 0));
        Check.noSuch("assign: street -1", () -> x.assign(-1, 0));
        Check.noSuch("assign: round 2", () -> x.assign(0, 2));
        Check.noSuch("assign: round -1", () -> x.assign(0, -1));
        Check.due(0, "roundOf after refused ones", () -> x.roundOf(0));
        Check.noSuch("roundOf: street 2", () -> x.roundOf(2));
        Check.noSuch("roundOf: street -1", () -> x.roundOf(-1));
    }

    private static void houseAt() {
        Candleford x = new Candleford();
        x.addPlace();
        x.addStreet(0, 1, 10, true);
        x.addStreet(0, 1, 10, false);
        x.addHouse(0, 0, 7);
        x.addHouse(0, 0, 3);
        x.addHouse(0, 1, 5);
        x.addHouse(0, 0, 7);
        x.addHouse(0, 0, 0);
        x.addHouse(1, 0, 1);
        Check.due(4, "houseAt rank 0", () -> x.houseAt(0, 0, 0));
        Check.due(1, "houseAt rank 1", () -> x.houseAt(0, 0, 1));
        Check.due(0, "houseAt rank 2, the lower number", () -> x.houseAt(0, 0, 2));
        Check.due(3, "houseAt rank 3, the higher number", () -> x.houseAt(0, 0, 3));
        Check.due(2, "houseAt the other side", () -> x.houseAt(0, 1, 0));
        Check.due(5, "houseAt another street", () -> x.houseAt(1, 0, 0));
        Check.badIndex("houseAt rank 4", () -> x.houseAt(0, 0, 4));
        Check.badIndex("houseAt rank -1", () -> x.houseAt(0, 0, -1));
        Check.badIndex("houseAt a side without houses", () -> x.houseAt(1, 1, 0));
        Check.badArgument("houseAt side 2", () -> x.houseAt(0, 2, 0));
        Check.badArgument("houseAt: the side before the rank", () -> x.houseAt(0, -1, 9));
        Check.noSuch("houseAt: the street before the side", () -> x.houseAt(2, 2, 9));
        Check.noSuch("houseAt: street -1", () -> x.houseAt(-1, 0, 0));
    }

    private static void distances() {
        Candleford x = new Candleford();
        for (int i = 0; i < 6; i++) {
            x.addPlace();
        }
        x.addStreet(0, 1, 10, true);
        x.addStreet(1, 2, 20, false);
        x.addStreet(0, 2, 40, true);
        x.addStreet(3, 2, 5, true);
        x.addStreet(4, 5, 7, true);
        int[][] due = {{0, 10, 30, 35, -1, -1, -1}, {10, 0, 20, 25, -1, -1, -1}, {30, 20, 0, 5, -1, -1, -1},
                {35, 25, 5, 0, -1, -1, -1}, {-1, -1, -1, -1, 0, 7, -1}, {-1, -1, -1, -1, 7, 0, -1},
                {-1, -1, -1, -1, -1, -1, 0}};
        for (int i = 0; i < 7; i++) {
            for (int j = 0; j < 7; j++) {
                int one = i;
                int other = j;
                Check.due(due[i][j], "distance(" + i + ", " + j + ")", () -> x.distance(one, other));
                Check.due(due[i][j], "distanceByRounds(" + i + ", " + j + ")", () -> x.distanceByRounds(one, other));
            }
        }
        x.addStreet(5, 0, 1, false);
        Check.due(43, "distance over a new street", () -> x.distance(3, 4));
        Check.due(43, "distanceByRounds over a new street", () -> x.distanceByRounds(3, 4));
        x.addStreet(2, 0, 3, false);
        Check.due(8, "distance over a shorter street", () -> x.distance(3, 0));
        Check.due(8, "distanceByRounds over a shorter street", () -> x.distanceByRounds(3, 0));
        for (int bad : new int[] {-1, 7, 10, Integer.MAX_VALUE, Integer.MIN_VALUE}) {
            Check.noSuch("distance(" + bad + ", 0)", () -> x.distance(bad, 0));
            Check.noSuch("distance(0, " + bad + ")", () -> x.distance(0, bad));
            Check.noSuch("distanceByRounds(" + bad + ", 0)", () -> x.distanceByRounds(bad, 0));
            Check.noSuch("distanceByRounds(0, " + bad + ")", () -> x.distanceByRounds(0, bad));
        }
        longestChain();
    }

    /** The streets stand in the order in which a round over them reaches one more place only. */
    private static void longestChain() {
        Candleford x = new Candleford();
        for (int i = 0; i < 9; i++) {
            x.addPlace();
        }
        for (int place = 9; place > 0; place--) {
            x.addStreet(place, place - 1, 99, true);
        }
        Check.due(891, "distance over nine streets", () -> x.distance(0, 9));
        Check.due(891, "distanceByRounds over nine streets", () -> x.distanceByRounds(0, 9));
        Check.due(891, "distanceByRounds back", () -> x.distanceByRounds(9, 0));
    }
}
