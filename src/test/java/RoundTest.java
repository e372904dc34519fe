/** Promises 31 to 34 and 42: rounds that are made and merged. */
public final class RoundTest {
    public static void main(String[] args) {
        deliver();
        deliverRefused();
        walked();
        saving();
        savingRefused();
        mergeInto();
        mergeIntoRefused();
        bestMerge();
        bestMergeOfSeveral();
        bestMergeWithoutWalk();
        Check.end();
    }

    /** Places in a row 10 apart, 0-1-2-3-4, by wide streets; a house at the first side of each. */
    private static Candleford row() {
        Candleford x = new Candleford();
        for (int place = 0; place < 4; place++) {
            x.addPlace();
            x.addStreet(place, place + 1, 10, true);
            x.addHouse(place, 0, 5);
        }
        return x;
    }

    /** The same with a round for each street and letters at each house. */
    private static Candleford rowOfRounds(int... limits) {
        Candleford x = row();
        for (int street = 0; street < limits.length; street++) {
            x.addRound(limits[street]);
            x.assign(street, street);
            x.letters(street, 1);
        }
        return x;
    }

    private static void deliver() {
        Candleford x = row();
        x.addRound(200);
        x.addRound(200);
        x.assign(0, 0);
        x.assign(1, 0);
        x.assign(2, 1);
        x.letters(0, 3);
        x.parcel(0, 5, 9);
        x.parcel(0, 6, 9);
        x.parcel(1, 1, 9);
        x.letters(2, 4);
        x.parcel(3, 1, 9);
        Check.due(2, "deliver", () -> x.deliver(0));
        Check.due(0, "deliver: letters", () -> x.lettersOf(0));
        Check.due("d", "deliver: a parcel", () -> x.parcelState(0));
        Check.due("w", "deliver: a heavy parcel", () -> x.parcelState(1));
        Check.due("d", "deliver: a parcel alone", () -> x.parcelState(2));
        Check.due(0, "deliver: none is due", () -> x.due(0));
        Check.due(4, "deliver: letters of another round", () -> x.lettersOf(2));
        Check.due("w", "deliver: a parcel in no round", () -> x.parcelState(3));
        Check.due(0, "deliver again", () -> x.deliver(0));
        Check.due(1, "nextParcel after deliver", () -> x.nextParcel());
        Check.due(0, "late after deliver", () -> x.late());
        Check.due(0, "vanClock after deliver", () -> x.vanClock());
        x.setBag(6);
        Check.due(1, "deliver with a greater bag", () -> x.deliver(0));
        Check.due("d", "deliver with a greater bag: parcelState", () -> x.parcelState(1));
    }

    private static void deliverRefused() {
        Candleford x = row();
        Check.noSuch("deliver: no round", () -> x.deliver(0));
        x.addRound(22);
        x.assign(0, 0);
        x.letters(0, 1);
        x.parcel(0, 5, 9);
        Check.badState("deliver: 23 minutes of 22", () -> x.deliver(0));
        Check.due(1, "lettersOf after a refused one", () -> x.lettersOf(0));
        Check.due("w", "parcelState after a refused one", () -> x.parcelState(0));
        Check.due(0L, "walked after a refused one", () -> x.walked());
        x.setBag(4);
        Check.due(1, "deliver: 22 minutes of 22", () -> x.deliver(0));
        Check.noSuch("deliver: round 1", () -> x.deliver(1));
        Check.noSuch("deliver: round -1", () -> x.deliver(-1));
    }

    private static void walked() {
        Candleford x = row();
        x.addRound(900);
        x.assign(0, 0);
        x.assign(3, 0);
        Check.due(0L, "walked at first", () -> x.walked());
        x.deliver(0);
        Check.due(0L, "walked without post", () -> x.walked());
        x.letters(0, 1);
        x.deliver(0);
        Check.due(20L, "walked after one", () -> x.walked());
        x.newDay();
        x.letters(3, 1);
        x.parcel(0, 9, 9);
        x.dispatch();
        x.deliver(0);
        Check.due(100L, "walked after two, without the van", () -> x.walked());
        x.letters(3, 1);
        x.walkLength(0);
        x.newDay();
        Check.due(100L, "walked: a walk that was not made", () -> x.walked());
    }

    private static void saving() {
        Candleford x = rowOfRounds(200, 200, 200, 200);
        Check.due(20, "saving: 20 + 40 - 40", () -> x.saving(0, 1));
        Check.due(20, "saving, the other way", () -> x.saving(1, 0));
        Check.due(60, "saving: 60 + 80 - 80", () -> x.saving(2, 3));
        x.deliver(2);
        Check.due(0, "saving with a round that needs nothing", () -> x.saving(2, 3));
        Check.due(0, "roundOf after saving", () -> x.roundOf(0));
        Check.due(20, "walkLength after saving", () -> x.walkLength(0));
        Candleford y = row();
        y.addRound(1);
        y.addRound(1);
        y.assign(0, 0);
        y.assign(1, 1);
        y.letters(0, 1);
        y.letters(1, 1);
        Check.due(20, "saving does not look at the limits", () -> y.saving(0, 1));
    }

    private static void savingRefused() {
        Candleford x = rowOfRounds(200, 200, 200);
        Check.noSuch("saving: one is 3", () -> x.saving(3, 0));
        Check.noSuch("saving: other is 3", () -> x.saving(0, 3));
        Check.noSuch("saving: one is -1", () -> x.saving(-1, 0));
        Check.noSuch("saving: other is -1", () -> x.saving(0, -1));
        Check.noSuch("saving: no such round before the same", () -> x.saving(3, 3));
        Check.badArgument("saving: the same", () -> x.saving(1, 1));
        x.addPlace();
        x.addPlace();
        x.addStreet(5, 6, 1, true);
        x.addHouse(4, 0, 0);
        x.assign(4, 2);
        x.letters(4, 1);
        Check.badState("saving: the other has no walk", () -> x.saving(0, 2));
        Check.badState("saving: the one has no walk", () -> x.saving(2, 0));
        Check.badArgument("saving: the same before no walk", () -> x.saving(2, 2));
        Check.due(20, "saving of those with walks", () -> x.saving(0, 1));
        Candleford y = manyPasses();
        Check.badState("saving: five and four passes", () -> y.saving(0, 1));
        Check.badState("mergeInto: five and four passes", () -> y.mergeInto(0, 1));
        Check.noSuch("bestMerge: five and four passes", () -> y.bestMerge());
    }

    /** The round 0 needs five passes, the round 1 four ones. */
    private static Candleford manyPasses() {
        Candleford y = new Candleford();
        y.addPlace();
        y.addRound(999);
        y.addRound(999);
        for (int street = 0; street < 9; street++) {
            y.addStreet(0, 1, 5, false);
            y.addHouse(street, 0, 0);
            y.assign(street, street < 5 ? 0 : 1);
            y.letters(street, 1);
        }
        return y;
    }

    private static void mergeInto() {
        Candleford x = rowOfRounds(200, 200, 44);
        x.assign(3, 1);
        Check.due(20, "mergeInto", () -> x.mergeInto(0, 1));
        Check.due(0, "mergeInto: a street of the one", () -> x.roundOf(0));
        Check.due(0, "mergeInto: a street of the other one", () -> x.roundOf(1));
        Check.due(0, "mergeInto: a street without post", () -> x.roundOf(3));
        Check.due(2, "mergeInto: a street of a third one", () -> x.roundOf(2));
        Check.due(40, "mergeInto: the walk of the one", () -> x.walkLength(0));
        Check.due(0, "mergeInto: the walk of the other one", () -> x.walkLength(1));
        Check.due(0, "mergeInto: the other one is there still", () -> x.assign(3, 1));
        Check.due(0, "mergeInto the one with the higher number", () -> x.mergeInto(1, 0));
        Check.due(1, "mergeInto: a street comes back", () -> x.roundOf(0));
        Check.due(40, "mergeInto: its walk", () -> x.walkLength(1));
    }

    private static void mergeIntoRefused() {
        Candleford x = rowOfRounds(43, 44, 200);
        Check.noSuch("mergeInto: one is 3", () -> x.mergeInto(3, 0));
        Check.noSuch("mergeInto: other is 3", () -> x.mergeInto(0, 3));
        Check.noSuch("mergeInto: one is -1", () -> x.mergeInto(-1, 0));
        Check.noSuch("mergeInto: other is -1", () -> x.mergeInto(0, -1));
        Check.noSuch("mergeInto: no such round before the same", () -> x.mergeInto(-1, -1));
        Check.badArgument("mergeInto: the same", () -> x.mergeInto(1, 1));
        Check.badState("mergeInto: 44 minutes of 43", () -> x.mergeInto(0, 1));
        Check.due(1, "roundOf after a refused one", () -> x.roundOf(1));
        Check.due(20, "mergeInto: 44 minutes of 44", () -> x.mergeInto(1, 0));
        Check.due(1, "roundOf after it", () -> x.roundOf(0));
        x.addPlace();
        x.addPlace();
        x.addStreet(5, 6, 1, true);
        x.addHouse(4, 0, 0);
        x.assign(4, 2);
        x.letters(4, 1);
        Check.badState("mergeInto: the other has no walk", () -> x.mergeInto(1, 2));
        Check.badState("mergeInto: the one has no walk", () -> x.mergeInto(2, 1));
        Check.due(2, "roundOf after refused ones", () -> x.roundOf(2));
        Check.due(1, "roundOf after refused ones", () -> x.roundOf(1));
    }

    private static void bestMerge() {
        Candleford none = new Candleford();
        Check.noSuch("bestMerge without rounds", () -> none.bestMerge());
        Candleford single = rowOfRounds(200);
        Check.noSuch("bestMerge of one round", () -> single.bestMerge());
        Candleford x = rowOfRounds(200, 200, 200, 200);
        Check.due(11, "bestMerge: 2 and 3", () -> x.bestMerge());
        Check.due(2, "bestMerge changes nothing", () -> x.roundOf(2));
        Candleford y = rowOfRounds(200, 200, 84, 200);
        Check.due(11, "bestMerge: 84 minutes of 84", () -> y.bestMerge());
        Candleford z = rowOfRounds(200, 200, 83, 200);
        Check.due(14, "bestMerge: 84 minutes of 83, so 3 and 2", () -> z.bestMerge());
        x.newDay();
        Check.noSuch("bestMerge without post", () -> x.bestMerge());
        x.letters(0, 1);
        Check.noSuch("bestMerge with one walk", () -> x.bestMerge());
        Candleford star = new Candleford();
        for (int place = 1; place <= 2; place++) {
            star.addPlace();
            star.addStreet(0, place, 10, true);
            star.addHouse(place - 1, 0, 0);
            star.addRound(200);
            star.assign(place - 1, place - 1);
            star.letters(place - 1, 1);
        }
        Check.due(0, "saving of two streets apart", () -> star.saving(0, 1));
        Check.noSuch("bestMerge of two streets apart", () -> star.bestMerge());
        Check.noSuch("bestMerge of a way that leads past the post office", () -> oneSaved(2).bestMerge());
        Check.due(1, "bestMerge: 1 is greater than 0", () -> oneSaved(1).bestMerge());
    }

    /** Two streets of the length 1 that begin and end at the post office, and a street from one to the other. */
    private static Candleford oneSaved(int between) {
        Candleford x = new Candleford();
        x.addPlace();
        x.addPlace();
        x.addStreet(0, 1, 1, true);
        x.addStreet(2, 0, 1, true);
        x.addStreet(1, 2, between, true);
        for (int street = 0; street < 2; street++) {
            x.addHouse(street, 0, 0);
            x.addRound(200);
            x.assign(street, street);
            x.letters(street, 1);
        }
        return x;
    }

    private static void bestMergeOfSeveral() {
        Candleford x = rowOfRounds(200, 200, 83, 83);
        Check.due(6, "bestMerge: 1 and 2 and 1 and 3 save as much", () -> x.bestMerge());
        Candleford y = rowOfRounds(200, 63, 63);
        Check.due(1, "bestMerge: 0 and 1 and 0 and 2 save as much", () -> y.bestMerge());
        Candleford z = rowOfRounds(43, 63, 63);
        Check.due(4, "bestMerge: 1 and 0 alone", () -> z.bestMerge());
        Candleford u = rowOfRounds(64, 70, 70);
        u.addHouse(1, 0, 5);
        u.letters(4, 1);
        for (int i = 0; i < 20; i++) {
            u.parcel(4, 1, 9);
        }
        Check.badState("0 and 1 need 66 minutes of 64", () -> u.mergeInto(0, 1));
        Check.due(2, "bestMerge: 0 and 2 before 1 and 0", () -> u.bestMerge());
    }

    private static void bestMergeWithoutWalk() {
        Candleford x = rowOfRounds(200, 200, 200, 200);
        x.addPlace();
        x.addPlace();
        x.addStreet(5, 6, 1, true);
        x.addHouse(4, 0, 0);
        x.assign(4, 3);
        x.letters(4, 1);
        Check.due(6, "bestMerge: 3 has no walk", () -> x.bestMerge());
        x.assign(4, 1);
        Check.due(11, "bestMerge: 1 has no walk", () -> x.bestMerge());
        x.assign(4, 2);
        Check.due(7, "bestMerge: 2 has no walk", () -> x.bestMerge());
    }
}
