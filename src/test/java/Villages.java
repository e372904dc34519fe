/** Villages that several tests use. Each call makes a new one, of far less than 512 calls. */
final class Villages {
    private Villages() {
    }

    static Candleford ofPlaces(int count) {
        Candleford x = new Candleford();
        for (int place = 1; place < count; place++) {
            x.addPlace();
        }
        return x;
    }

    /** The street 0 from the post office to the place 1, of the round 0, which has the greatest limit. */
    static Candleford ofOneStreet(int length, boolean isWide) {
        Candleford x = ofPlaces(2);
        x.addStreet(0, 1, length, isWide);
        x.addRound(999);
        x.assign(0, 0);
        return x;
    }

    /** Ten places in a row, by streets of the length 99; the place 9 is 891 from the post office. */
    static Candleford ofLongRow() {
        Candleford x = ofPlaces(10);
        for (int place = 0; place < 9; place++) {
            x.addStreet(place, place + 1, 99, true);
        }
        return x;
    }

    /**
     * A day before, with another bag, a walk that was made and a parcel that was late, and the begin of this day, with
     * the first parcel delivered. The house 0 is the only one with post, and its round is in time with it.
     */
    static void withPast(Candleford x) {
        x.setBag(6);
        x.letters(0, 1);
        x.deliver(x.roundOf(0));
        for (int trip = 0; trip < 3; trip++) {
            x.parcel(0, 9, 1);
            x.dispatch();
        }
        x.newDay();
        x.parcel(0, 9, 1);
        x.dispatch();
    }

    /** Narrow streets of the length 5 from the post office to the place 1, a house with a letter at each. */
    static Candleford ofParallelStreets(int... roundOfEach) {
        Candleford x = ofPlaces(2);
        for (int round = 0; round < 4; round++) {
            x.addRound(999);
        }
        for (int street = 0; street < roundOfEach.length; street++) {
            x.addStreet(0, 1, 5, false);
            x.addHouse(street, 0, 2);
            x.letters(street, 1);
            x.assign(street, roundOfEach[street]);
        }
        return x;
    }

    /** Some of everything, on its second day: parcels in each state, one that was late, a walk that was made. */
    static Candleford ordinary() {
        Candleford x = ofPlaces(4);
        x.addStreet(0, 1, 10, true);
        x.addStreet(1, 2, 20, false);
        x.addStreet(2, 0, 15, true);
        x.addStreet(0, 2, 40, false);
        x.addHouse(0, 0, 3);
        x.addHouse(0, 1, 7);
        x.addHouse(1, 0, 5);
        x.addHouse(2, 1, 4);
        x.addHouse(3, 0, 1);
        x.addHouse(0, 0, 3);
        x.addRound(90);
        x.addRound(60);
        x.addRound(999);
        x.assign(0, 0);
        x.assign(1, 0);
        x.assign(2, 1);
        x.setBag(7);
        x.parcel(0, 9, 1);
        x.parcel(3, 9, 1);
        x.dispatch();
        x.dispatch();
        x.letters(0, 3);
        x.deliver(0);
        x.newDay();
        secondDay(x);
        return x;
    }

    private static void secondDay(Candleford x) {
        x.parcel(0, 7, 30);
        x.parcel(3, 8, 40);
        x.parcel(4, 9, 40);
        x.parcel(1, 99, 20);
        x.parcel(3, 1, 9);
        x.dispatch();
        x.deliver(1);
        for (int house = 0; house < 5; house++) {
            x.letters(house, 2 + house);
        }
    }

    /**
     * What ordinary() has not: the first parcels are delivered, and the last ones wait; the last house has letters, and
     * the last street belongs to a round.
     */
    static Candleford evening() {
        Candleford x = ofPlaces(2);
        x.addStreet(0, 1, 10, true);
        x.addStreet(0, 1, 7, false);
        x.addHouse(0, 0, 3);
        x.addHouse(1, 1, 7);
        x.addRound(50);
        x.addRound(20);
        x.assign(0, 0);
        x.assign(1, 1);
        x.letters(0, 1);
        x.parcel(0, 5, 9);
        x.deliver(0);
        x.parcel(0, 6, 1);
        x.dispatch();
        x.letters(0, 2);
        x.letters(1, 4);
        x.parcel(1, 5, 9);
        x.parcel(0, 9, 50);
        return x;
    }

    /** No more of anything; the house 0 has 80 letters, and the house 29 as many as it can have. */
    static Candleford full() {
        Candleford x = ofPlaces(10);
        for (int street = 0; street < 16; street++) {
            x.addStreet(street % 9, street % 9 + 1, 1 + street, street % 2 == 0);
        }
        for (int house = 0; house < 30; house++) {
            int street = house % 16;
            x.addHouse(street, house / 16, house % 3 == 0 ? 1 + street : 0);
        }
        for (int round = 0; round < 4; round++) {
            x.addRound(999 - round);
        }
        for (int street = 0; street < 16; street++) {
            x.assign(street, street % 4);
        }
        withPast(x);
        for (int parcel = 1; parcel < 20; parcel++) {
            x.parcel(parcel, parcel % 2 == 0 ? 4 : 50, 10 + parcel);
        }
        for (int house = 0; house < 8; house++) {
            x.letters(house, 20);
        }
        for (int i = 0; i < 5; i++) {
            x.letters(29, i == 0 ? 19 : 20);
        }
        for (int i = 0; i < 3; i++) {
            x.letters(0, 20);
        }
        return x;
    }

    /**
     * The round 0 needs one pass, the round 1 six to which no way leads, the round 2 nine, the round 3 six. The street
     * 15 belongs to no round. The houses 23 to 25 have no letters. No way leads to what the van takes next, the parcel
     * 1.
     */
    static Candleford stuck() {
        Candleford x = ofPlaces(4);
        for (int street = 0; street < 16; street++) {
            int place = street >= 1 && street <= 6 ? 2 : 0;
            x.addStreet(place, place + 1, 5, street == 0 || street > 6);
        }
        int[] rounds = {0, 1, 1, 1, 1, 1, 1, 2, 2, 2, 2, 2, 3, 3, 3};
        for (int round = 0; round < 4; round++) {
            x.addRound(999);
        }
        for (int street = 0; street < rounds.length; street++) {
            x.assign(street, rounds[street]);
            x.addHouse(street, 0, 2);
        }
        for (int street : new int[] {7, 8, 9, 10, 12, 13, 14}) {
            x.addHouse(street, 1, 2);
        }
        x.addHouse(15, 0, 0);
        withPast(x);
        for (int house = 0; house < 23; house++) {
            x.letters(house, 1);
        }
        x.addHouse(0, 0, 1);
        x.addHouse(1, 0, 1);
        x.addHouse(7, 0, 1);
        x.parcel(1, 7, 1);
        x.parcel(0, 7, 50);
        x.parcel(0, 6, 50);
        return x;
    }

    /**
     * Two rounds, each of which is over its limit by one, and more so with the streets of the other. A parcel is
     * delivered, and one waits that is not heavy.
     */
    static Candleford tight() {
        Candleford x = ofPlaces(3);
        x.addStreet(0, 1, 10, true);
        x.addStreet(1, 2, 10, true);
        x.addRound(22);
        x.addRound(41);
        for (int street = 0; street < 2; street++) {
            x.addHouse(street, 0, 5);
            x.assign(street, street);
        }
        withPast(x);
        x.letters(0, 1);
        x.letters(1, 1);
        x.parcel(0, 6, 1);
        return x;
    }

    /** Rounds of five and four passes, on their second day; of two parcels, the last waits for the van. */
    static Candleford fiveAndFour() {
        Candleford x = ofParallelStreets(0, 0, 0, 0, 0, 1, 1, 1, 1);
        x.newDay();
        withPast(x);
        for (int house = 0; house < 9; house++) {
            x.letters(house, 1);
        }
        x.parcel(8, 7, 9);
        return x;
    }

    /** On the second day, when no house is due; of two parcels, the last waits for the van. */
    static Candleford noneDue() {
        Candleford x = ofOneStreet(10, true);
        x.addHouse(0, 0, 5);
        x.addHouse(0, 1, 5);
        withPast(x);
        x.parcel(1, 7, 9);
        return x;
    }

    /** A round was made with a letter and a parcel, but the van has made no trip; of two that wait, one is for it. */
    static Candleford noTrips() {
        Candleford x = ofOneStreet(10, true);
        x.addHouse(0, 0, 5);
        x.addHouse(0, 1, 5);
        x.setBag(6);
        x.letters(0, 1);
        x.parcel(0, 6, 9);
        x.deliver(0);
        x.letters(0, 2);
        x.letters(1, 3);
        x.parcel(1, 7, 9);
        x.parcel(1, 6, 9);
        return x;
    }
}
