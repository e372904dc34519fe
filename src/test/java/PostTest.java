/** Promises 7 to 10, 16 to 18, 35, 36 and 44: the bag, letters, parcels, days and houses that are due. */
public final class PostTest {
    public static void main(String[] args) {
        setBag();
        letters();
        parcel();
        isDue();
        due();
        newDay();
        parcelStateAndIsHeavy();
        meanLetters();
        Check.end();
    }

    /** A wide street 0 from 0 to 1 of the round 0, a narrow street 1 from 1 to 2 of no round, two houses at each. */
    private static Candleford village() {
        Candleford x = new Candleford();
        x.addPlace();
        x.addPlace();
        x.addStreet(0, 1, 10, true);
        x.addStreet(1, 2, 20, false);
        x.addHouse(0, 0, 3);
        x.addHouse(0, 1, 7);
        x.addHouse(1, 0, 5);
        x.addHouse(1, 1, 5);
        x.addRound(500);
        x.assign(0, 0);
        return x;
    }

    private static void setBag() {
        Candleford x = village();
        Check.due(5, "setBag(0)", () -> x.setBag(0));
        Check.due(0, "setBag(99)", () -> x.setBag(99));
        Check.badArgument("setBag(100)", () -> x.setBag(100));
        Check.badArgument("setBag(-1)", () -> x.setBag(-1));
        Check.due(99, "setBag after refused ones", () -> x.setBag(7));
        x.parcel(0, 7, 1);
        x.parcel(0, 8, 1);
        Check.due(false, "isHeavy: as heavy as the bag", () -> x.isHeavy(0));
        Check.due(true, "isHeavy: heavier than the bag", () -> x.isHeavy(1));
        x.setBag(6);
        Check.due(true, "isHeavy with a smaller bag", () -> x.isHeavy(0));
        Check.due(false, "isDue with a smaller bag", () -> x.isDue(0));
        x.setBag(8);
        Check.due(false, "isHeavy with a greater bag", () -> x.isHeavy(1));
        Check.due(true, "isDue with a greater bag", () -> x.isDue(0));
    }

    private static void letters() {
        Candleford x = village();
        Check.noSuch("letters: house 4", () -> x.letters(4, 1));
        Check.noSuch("letters: house -1", () -> x.letters(-1, 1));
        Check.noSuch("letters: the house before the number", () -> x.letters(4, 0));
        Check.badArgument("letters: none", () -> x.letters(0, 0));
        Check.badArgument("letters: 21", () -> x.letters(0, 21));
        Check.badArgument("letters: -1", () -> x.letters(0, -1));
        Check.due(0, "lettersOf after refused ones", () -> x.lettersOf(0));
        Check.due(1, "letters: 1", () -> x.letters(0, 1));
        Check.due(21, "letters: 20", () -> x.letters(0, 20));
        Check.due(41, "letters: 20 more", () -> x.letters(0, 20));
        Check.due(61, "letters: 20 more", () -> x.letters(0, 20));
        Check.due(81, "letters: 20 more", () -> x.letters(0, 20));
        Check.badState("letters: 101", () -> x.letters(0, 20));
        Check.badState("letters: 100", () -> x.letters(0, 19));
        Check.badArgument("letters: the number before the sum", () -> x.letters(0, 21));
        Check.due(81, "lettersOf after refused ones", () -> x.lettersOf(0));
        Check.due(99, "letters: 99", () -> x.letters(0, 18));
        Check.badState("letters: 100", () -> x.letters(0, 1));
        Check.badArgument("letters: greatest", () -> x.letters(0, Integer.MAX_VALUE));
        Check.due(99, "lettersOf", () -> x.lettersOf(0));
        Check.due(0, "lettersOf another house", () -> x.lettersOf(1));
        Check.noSuch("lettersOf: house 4", () -> x.lettersOf(4));
        Check.noSuch("lettersOf: house -1", () -> x.lettersOf(-1));
    }

    private static void parcel() {
        Candleford x = village();
        Check.noSuch("parcel: house 4", () -> x.parcel(4, 1, 1));
        Check.noSuch("parcel: house -1", () -> x.parcel(-1, 1, 1));
        Check.noSuch("parcel: the house before the weight", () -> x.parcel(4, 0, 0));
        Check.badArgument("parcel: weight 0", () -> x.parcel(0, 0, 1));
        Check.badArgument("parcel: weight 100", () -> x.parcel(0, 100, 1));
        Check.badArgument("parcel: deadline 0", () -> x.parcel(0, 1, 0));
        Check.badArgument("parcel: deadline 1000", () -> x.parcel(0, 1, 1000));
        Check.noSuch("no parcel after refused ones", () -> x.parcelState(0));
        for (int number = 0; number < 20; number++) {
            int weight = number % 2 == 0 ? 1 : 99;
            int deadline = number % 3 == 0 ? 1 : 999;
            Check.due(number, "parcel", () -> x.parcel(0, weight, deadline));
        }
        Check.badState("parcel, the 21st", () -> x.parcel(0, 1, 1));
        Check.badArgument("parcel: the weight before the number", () -> x.parcel(0, 0, 1));
        Check.noSuch("parcel: the house before the number", () -> x.parcel(4, 1, 1));
        Check.noSuch("no parcel 20", () -> x.parcelState(20));
        x.deliver(0);
        Check.due("d", "parcelState, delivered", () -> x.parcelState(0));
        Check.badState("parcel: those delivered count too", () -> x.parcel(0, 1, 1));
        x.newDay();
        Check.due(0, "parcel on a new day", () -> x.parcel(0, 1, 1));
    }

    private static void isDue() {
        Candleford x = village();
        Check.due(false, "isDue without post", () -> x.isDue(0));
        x.letters(0, 1);
        Check.due(true, "isDue with letters", () -> x.isDue(0));
        x.parcel(1, 5, 9);
        Check.due(true, "isDue with a parcel", () -> x.isDue(1));
        x.parcel(2, 6, 9);
        Check.due(false, "isDue with a heavy parcel", () -> x.isDue(2));
        x.parcel(2, 1, 9);
        Check.due(true, "isDue with a heavy parcel and another one", () -> x.isDue(2));
        Check.due(false, "isDue, the house opposite", () -> x.isDue(3));
        x.letters(3, 2);
        Check.due(true, "isDue at a street of no round", () -> x.isDue(3));
        x.deliver(0);
        Check.due(false, "isDue after its letters came", () -> x.isDue(0));
        Check.due(false, "isDue after its parcel came", () -> x.isDue(1));
        Check.due(true, "isDue after another round was made", () -> x.isDue(3));
        Check.noSuch("isDue: house 4", () -> x.isDue(4));
        Check.noSuch("isDue: house -1", () -> x.isDue(-1));
    }

    private static void due() {
        Candleford x = village();
        x.addRound(5);
        Check.due(0, "due at first", () -> x.due(0));
        x.letters(0, 3);
        x.letters(2, 3);
        x.parcel(0, 1, 9);
        x.parcel(1, 9, 9);
        Check.due(1, "due: each house once, heavy parcels not", () -> x.due(0));
        x.assign(1, 0);
        Check.due(2, "due with another street", () -> x.due(0));
        x.assign(1, 1);
        Check.due(1, "due without it", () -> x.due(0));
        Check.due(1, "due of the other round", () -> x.due(1));
        x.setBag(9);
        Check.due(2, "due with a greater bag", () -> x.due(0));
        Check.noSuch("due: round 2", () -> x.due(2));
        Check.noSuch("due: round -1", () -> x.due(-1));
    }

    private static void newDay() {
        Candleford x = village();
        Check.due(0, "newDay without post", () -> x.newDay());
        x.letters(0, 4);
        x.letters(2, 4);
        x.parcel(2, 1, 9);
        x.parcel(1, 9, 9);
        x.parcel(3, 9, 1);
        x.dispatch();
        Check.due(2, "newDay: houses of all rounds and of none", () -> x.newDay());
        Check.due(0, "newDay: letters gone", () -> x.lettersOf(0));
        Check.due(false, "newDay: parcels gone", () -> x.isDue(2));
        Check.noSuch("newDay: no parcel", () -> x.parcelState(0));
        Check.noSuch("newDay: no heavy parcel", () -> x.nextParcel());
        Check.due(0, "newDay: the clock", () -> x.vanClock());
        Check.due(1, "newDay: late stays", () -> x.late());
        Check.due(1.0f, "newDay: lateShare stays", () -> x.lateShare());
        Check.due(0, "newDay: the round stays", () -> x.roundOf(0));
        x.setBag(9);
        x.newDay();
        Check.due(9, "newDay: the bag stays", () -> x.setBag(5));
        x.letters(0, 1);
        x.deliver(0);
        x.newDay();
        Check.due(20L, "newDay: walked stays", () -> x.walked());
    }

    private static void parcelStateAndIsHeavy() {
        Candleford x = village();
        Check.noSuch("parcelState without parcels", () -> x.parcelState(0));
        Check.noSuch("isHeavy without parcels", () -> x.isHeavy(0));
        x.parcel(0, 5, 9);
        x.parcel(1, 6, 9);
        x.parcel(2, 5, 9);
        Check.due("w", "parcelState, posted", () -> x.parcelState(0));
        Check.due(false, "isHeavy at the bag", () -> x.isHeavy(0));
        Check.due(true, "isHeavy over the bag", () -> x.isHeavy(1));
        x.deliver(0);
        Check.due("d", "parcelState after its round", () -> x.parcelState(0));
        Check.due("w", "parcelState of a heavy one after its round", () -> x.parcelState(1));
        Check.due("w", "parcelState in no round", () -> x.parcelState(2));
        x.dispatch();
        Check.due("d", "parcelState after the van", () -> x.parcelState(1));
        Check.due(true, "isHeavy when delivered", () -> x.isHeavy(1));
        x.setBag(4);
        Check.due(true, "isHeavy when delivered, with a smaller bag", () -> x.isHeavy(0));
        Check.due("d", "parcelState does not go back", () -> x.parcelState(0));
        for (int bad : new int[] {-1, 3, 20, Integer.MIN_VALUE}) {
            Check.noSuch("parcelState(" + bad + ")", () -> x.parcelState(bad));
            Check.noSuch("isHeavy(" + bad + ")", () -> x.isHeavy(bad));
        }
    }

    private static void meanLetters() {
        Candleford x = village();
        Check.badDivision("meanLetters, none due", () -> x.meanLetters());
        x.parcel(0, 9, 9);
        Check.badDivision("meanLetters, a heavy parcel alone", () -> x.meanLetters());
        x.letters(0, 2);
        Check.due(2.0, "meanLetters of one", () -> x.meanLetters());
        x.letters(2, 5);
        Check.due(3.5, "meanLetters of two", () -> x.meanLetters());
        x.parcel(1, 1, 9);
        Check.due(7.0 / 3.0, "meanLetters with a house that has a parcel alone", () -> x.meanLetters());
        x.deliver(0);
        Check.due(5.0, "meanLetters after a round", () -> x.meanLetters());
        x.newDay();
        Check.badDivision("meanLetters on a new day", () -> x.meanLetters());
        x.parcel(1, 1, 9);
        Check.due(0.0, "meanLetters without letters", () -> x.meanLetters());
    }
}
