/** What calls show of a village, as a text, so that two villages can be compared. */
final class Shown {
    /** Calls on a village, some of which change it. */
    interface Part {
        void ask(Shown shown);
    }

    /** Parts that ask only. */
    static final Part[] QUESTIONS = {Shown::askVillage, Shown::askWays, Shown::askPost, Shown::askWalks,
            Shown::askMerges, Shown::askVan};
    /** All parts; those that change the village show what only such a call can show. */
    static final Part[] PARTS = {Shown::askVillage, Shown::askWays, Shown::askPost, Shown::askWalks,
            Shown::askMerges, Shown::askVan, Shown::add, Shown::post, Shown::dispatchAll, Shown::deliverAll,
            Shown::mergeAll, Shown::beginDay};
    /** With the calls that make a village, less than the 512 for which an object is used. */
    private static final int MOST_CALLS = 360;
    private static final int ROUNDS = 4;

    private final Candleford x;
    private final StringBuilder text = new StringBuilder();
    private int calls = 0;

    private Shown(Candleford x) {
        this.x = x;
    }

    static String of(Candleford x, Part part) {
        Shown shown = new Shown(x);
        part.ask(shown);
        if (shown.calls > MOST_CALLS) {
            throw new AssertionError(shown.calls + " calls are too many for one object");
        }
        return shown.text.toString();
    }

    private String ask(String what, Check.Call call) {
        String answer = Check.answerOf(call);
        calls++;
        text.append(what).append(' ').append(answer).append("; ");
        return answer;
    }

    private static boolean isThrown(String answer) {
        return answer.startsWith("throws.") || answer.startsWith("machine.");
    }

    private int count(String what, Check.Call call) {
        return Integer.parseInt(ask(what, call));
    }

    private void askVillage() {
        ask("places", () -> x.places());
        ask("houses", () -> x.houses());
        int streets = count("streets", () -> x.streets());
        for (int i = 0; i <= streets; i++) {
            int street = i;
            ask("roundOf " + street, () -> x.roundOf(street));
            askHouses(street, 0);
            askHouses(street, 1);
        }
    }

    private void askHouses(int street, int side) {
        boolean isThere = true;
        for (int i = 0; isThere; i++) {
            int rank = i;
            String what = "houseAt " + street + " " + side + " " + rank;
            isThere = !isThrown(ask(what, () -> x.houseAt(street, side, rank)));
        }
    }

    private void askWays() {
        int places = count("places", () -> x.places());
        for (int i = 0; i < places; i++) {
            for (int j = i; j < places; j++) {
                int one = i;
                int other = j;
                ask("distance " + one + " " + other, () -> x.distance(one, other));
                ask("distanceByRounds " + other + " " + one, () -> x.distanceByRounds(other, one));
            }
        }
    }

    private void askPost() {
        int houses = count("houses", () -> x.houses());
        for (int i = 0; i <= houses; i++) {
            int house = i;
            ask("lettersOf " + house, () -> x.lettersOf(house));
            ask("isDue " + house, () -> x.isDue(house));
            ask("walkTo " + house, () -> x.walkTo(house));
        }
        for (int i = 0; i < ROUNDS; i++) {
            int round = i;
            ask("due " + round, () -> x.due(round));
        }
        ask("meanLetters", () -> x.meanLetters());
    }

    private void askWalks() {
        for (int i = 0; i < ROUNDS; i++) {
            int round = i;
            ask("needed " + round, () -> x.needed(round));
            ask("hasWalk " + round, () -> x.hasWalk(round));
            ask("walkLength " + round, () -> x.walkLength(round));
            ask("lengthByTrying " + round, () -> x.lengthByTrying(round));
            ask("walkPlaces " + round, () -> x.walkPlaces(round));
            ask("walkTime " + round, () -> x.walkTime(round));
            ask("isInTime " + round, () -> x.isInTime(round));
            boolean isPass = true;
            for (int j = 0; isPass; j++) {
                int index = j;
                isPass = !isThrown(ask("passAt " + round + " " + index, () -> x.passAt(round, index)));
            }
            boolean isPlace = true;
            for (int j = 0; isPlace; j++) {
                int index = j;
                isPlace = !isThrown(ask("walkAt " + round + " " + index, () -> x.walkAt(round, index)));
            }
        }
    }

    private void askMerges() {
        for (int pair = 0; pair < ROUNDS * ROUNDS; pair++) {
            int one = pair / ROUNDS;
            int other = pair % ROUNDS;
            ask("saving " + one + " " + other, () -> x.saving(one, other));
        }
        ask("bestMerge", () -> x.bestMerge());
    }

    private void askVan() {
        for (int i = 0; i <= 20; i++) {
            int parcel = i;
            ask("parcelState " + parcel, () -> x.parcelState(parcel));
            ask("isHeavy " + parcel, () -> x.isHeavy(parcel));
            ask("tripOf " + parcel, () -> x.tripOf(parcel));
        }
        ask("nextParcel", () -> x.nextParcel());
        askSums();
    }

    private void askSums() {
        ask("vanClock", () -> x.vanClock());
        ask("late", () -> x.late());
        ask("walked", () -> x.walked());
        ask("lateShare", () -> x.lateShare());
    }

    private void add() {
        ask("addStreet", () -> x.addStreet(0, 1, 3, true));
        ask("addHouse", () -> x.addHouse(0, 0, 1));
        ask("addRound", () -> x.addRound(9));
        ask("addPlace", () -> x.addPlace());
        askVillage();
    }

    private void post() {
        ask("setBag", () -> x.setBag(50));
        for (int house = 0; house < 30; house += 29) {
            int number = house;
            ask("letters", () -> x.letters(number, 1));
            ask("parcel", () -> x.parcel(number, 60, 99));
        }
        ask("nextParcel", () -> x.nextParcel());
        askPost();
    }

    private void dispatchAll() {
        boolean isMade = true;
        for (int i = 0; isMade && i < 20; i++) {
            ask("nextParcel", () -> x.nextParcel());
            isMade = !isThrown(ask("dispatch", () -> x.dispatch()));
        }
        askSums();
    }

    private void deliverAll() {
        for (int i = 0; i < ROUNDS; i++) {
            int round = i;
            ask("deliver", () -> x.deliver(round));
            ask("walked", () -> x.walked());
        }
        askPost();
    }

    private void mergeAll() {
        for (int i = 0; i < ROUNDS - 1; i++) {
            int round = i;
            ask("mergeInto", () -> x.mergeInto(round + 1, round));
            ask("walkLength", () -> x.walkLength(round + 1));
        }
        askVillage();
    }

    private void beginDay() {
        ask("newDay", () -> x.newDay());
        ask("parcel", () -> x.parcel(0, 1, 1));
        askPost();
        askVan();
    }
}
