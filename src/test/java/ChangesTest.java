import java.util.ArrayList;
import java.util.LinkedHashMap;
import java.util.List;
import java.util.Map;

/**
 * "Nothing is promised beyond the answers and state changes described above": each call that changes something is made
 * on a village, and all questions are asked with and without it. Just those answers differ that the document
 * lets differ, and they differ as it says. An answer is the name of an exception where the question is refused, and
 * "gone" where it is not asked any more.
 */
public final class ChangesTest {
    private interface Make {
        Candleford village();
    }

    private interface On {
        Object answer(Candleford x);
    }

    public static void main(String[] args) {
        places();
        streets();
        houses();
        rounds();
        assign();
        setBag();
        letters();
        parcel();
        newDay();
        deliver();
        mergeInto();
        dispatch();
        inTheEvening();
        Check.end();
    }

    /** addPlace: "Adds a place." No street leads to it. */
    private static void places() {
        changes("addPlace", x -> x.addPlace(), """
                places 5;
                distance 0 4 -1; distanceByRounds 4 0 -1; distance 1 4 -1; distanceByRounds 4 1 -1;
                distance 2 4 -1; distanceByRounds 4 2 -1; distance 3 4 -1; distanceByRounds 4 3 -1;
                distance 4 4 0; distanceByRounds 4 4 0""");
    }

    /** addStreet: "Adds a street." It leads to the place 3, to which none led; it belongs to no round. */
    private static void streets() {
        changes("addStreet", x -> x.addStreet(3, 0, 50, false), """
                streets 5; roundOf 4 -1; houseAt 4 0 0 IndexOutOfBounds; houseAt 4 1 0 IndexOutOfBounds;
                roundOf 5 NoSuchElement; houseAt 5 0 0 NoSuchElement; houseAt 5 1 0 NoSuchElement;
                distance 0 3 50; distanceByRounds 3 0 50; distance 1 3 60; distanceByRounds 3 1 60;
                distance 2 3 65; distanceByRounds 3 2 65""");
    }

    /** addHouse: "Adds a house." It has no post. */
    private static void houses() {
        changes("addHouse", x -> x.addHouse(0, 0, 3), """
                houses 7; houseAt 0 0 2 6; houseAt 0 0 3 IndexOutOfBounds;
                lettersOf 6 0; isDue 6 false; walkTo 6 UnsupportedOperation;
                lettersOf 7 NoSuchElement; isDue 7 NoSuchElement; walkTo 7 NoSuchElement""");
    }

    /** addRound: "Adds a round without streets." */
    private static void rounds() {
        changes("addRound", x -> x.addRound(60), """
                due 3 0; needed 3 0; hasWalk 3 true; walkLength 3 0; lengthByTrying 3 0; walkPlaces 3 1; walkTime 3 0;
                isInTime 3 true; passAt 3 0 IndexOutOfBounds; walkAt 3 0 0; walkAt 3 1 IndexOutOfBounds;
                saving 0 3 0; saving 1 3 0; saving 2 3 0;
                saving 3 0 0; saving 3 1 0; saving 3 2 0; saving 3 3 IllegalArgument""");
    }

    /** assign: "Lets a street belong to a round." The house 4 stands there, and has letters. */
    private static void assign() {
        changes("assign", x -> x.assign(3, 2), """
                roundOf 3 2; walkTo 4 1; due 2 1; needed 2 1; walkLength 2 55; lengthByTrying 2 55; walkPlaces 2 3;
                walkTime 2 57; passAt 2 0 6; passAt 2 1 IndexOutOfBounds;
                walkAt 2 1 2; walkAt 2 2 0; walkAt 2 3 IndexOutOfBounds;
                saving 0 2 25; saving 1 2 30; saving 2 0 25; saving 2 1 30; bestMerge 6""");
        changes("assign to the same round", x -> x.assign(0, 0), "");
    }

    /** setBag: "Sets the bag." The parcel 1 has the weight 8. */
    private static void setBag() {
        changes("setBag", x -> x.setBag(8), "walkTime 1 33; isHeavy 1 false; bag 8");
        changes("setBag to the same", x -> x.setBag(7), "");
    }

    /** letters: "Posts letters for a house." One had none, the other has some. */
    private static void letters() {
        changes("letters", x -> x.letters(5, 2), """
                lettersOf 5 2; isDue 5 true; walkTo 5 3; due 0 4; meanLetters 3.6666666666666665; walkTime 0 69""");
        changes("letters, more", x -> x.letters(3, 10), "lettersOf 3 15; meanLetters 6.0");
    }

    /** parcel: "Posts a parcel for a house." */
    private static void parcel() {
        changes("parcel, not heavy", x -> x.parcel(5, 7, 10), """
                isDue 5 true; walkTo 5 3; due 0 4; meanLetters 3.3333333333333335; walkTime 0 70;
                parcelState 5 w; isHeavy 5 false; tripOf 5 2""");
        changes("parcel, not heavy, one more", x -> x.parcel(0, 7, 10), """
                walkTime 0 68; parcelState 5 w; isHeavy 5 false; tripOf 5 2""");
        changes("parcel, heavy", x -> x.parcel(5, 8, 10), """
                parcelState 5 w; isHeavy 5 true; tripOf 5 2; nextParcel 5""");
    }

    /** newDay: "Begins a new day: all letters and parcels are gone, and the clock of the van is 0." */
    private static void newDay() {
        changes("newDay", x -> x.newDay(), """
                lettersOf 0 0; isDue 0 false; walkTo 0 UnsupportedOperation;
                lettersOf 1 0; isDue 1 false; walkTo 1 UnsupportedOperation;
                lettersOf 2 0; isDue 2 false; walkTo 2 UnsupportedOperation;
                lettersOf 3 0; isDue 3 false; walkTo 3 UnsupportedOperation;
                lettersOf 4 0; isDue 4 false; due 0 0; due 1 0; meanLetters Arithmetic;
                needed 0 0; walkLength 0 0; lengthByTrying 0 0; walkPlaces 0 1; walkTime 0 0;
                passAt 0 0 IndexOutOfBounds; walkAt 0 1 IndexOutOfBounds;
                needed 1 0; walkLength 1 0; lengthByTrying 1 0; walkPlaces 1 1; walkTime 1 0;
                passAt 1 0 IndexOutOfBounds; walkAt 1 1 IndexOutOfBounds;
                saving 0 1 0; saving 1 0 0; bestMerge NoSuchElement;
                parcelState 0 NoSuchElement; isHeavy 0 NoSuchElement; tripOf 0 NoSuchElement;
                parcelState 1 NoSuchElement; isHeavy 1 NoSuchElement; tripOf 1 NoSuchElement;
                parcelState 2 NoSuchElement; isHeavy 2 NoSuchElement; tripOf 2 NoSuchElement;
                parcelState 3 NoSuchElement; isHeavy 3 NoSuchElement; tripOf 3 NoSuchElement;
                parcelState 4 NoSuchElement; isHeavy 4 NoSuchElement; tripOf 4 NoSuchElement;
                nextParcel NoSuchElement; vanClock 0;
                passAt 0 1 gone; passAt 0 2 gone; passAt 0 3 gone;
                walkAt 0 2 gone; walkAt 0 3 gone; walkAt 0 4 gone; walkAt 0 5 gone;
                passAt 1 1 gone; walkAt 1 2 gone; walkAt 1 3 gone""");
    }

    /** deliver: "all houses that are due at its streets get their letters and the parcels that are not heavy." */
    private static void deliver() {
        changes("deliver, letters and a parcel", x -> x.deliver(0), """
                lettersOf 0 0; isDue 0 false; walkTo 0 UnsupportedOperation;
                lettersOf 1 0; isDue 1 false; walkTo 1 UnsupportedOperation;
                lettersOf 2 0; isDue 2 false; walkTo 2 UnsupportedOperation; due 0 0; meanLetters 5.5;
                needed 0 0; walkLength 0 0; lengthByTrying 0 0; walkPlaces 0 1; walkTime 0 0;
                passAt 0 0 IndexOutOfBounds; walkAt 0 1 IndexOutOfBounds;
                saving 0 1 0; saving 1 0 0; bestMerge NoSuchElement; parcelState 0 d; walked 110;
                passAt 0 1 gone; passAt 0 2 gone; passAt 0 3 gone;
                walkAt 0 2 gone; walkAt 0 3 gone; walkAt 0 4 gone; walkAt 0 5 gone""");
        changes("deliver, letters and a heavy parcel", x -> x.deliver(1), """
                lettersOf 3 0; isDue 3 false; walkTo 3 UnsupportedOperation; due 1 0; meanLetters 3.75;
                needed 1 0; walkLength 1 0; lengthByTrying 1 0; walkPlaces 1 1; walkTime 1 0;
                passAt 1 0 IndexOutOfBounds; walkAt 1 1 IndexOutOfBounds;
                saving 0 1 0; saving 1 0 0; bestMerge NoSuchElement; walked 80;
                passAt 1 1 gone; walkAt 1 2 gone; walkAt 1 3 gone""");
        changes("deliver, no house due", x -> x.deliver(2), "");
    }

    /** mergeInto: "the streets of the other one go to the one." */
    private static void mergeInto() {
        changes("mergeInto", x -> x.mergeInto(2, 1), """
                roundOf 2 2; due 1 0; due 2 1;
                needed 1 0; walkLength 1 0; lengthByTrying 1 0; walkPlaces 1 1; walkTime 1 0;
                passAt 1 0 IndexOutOfBounds; walkAt 1 1 IndexOutOfBounds;
                needed 2 1; walkLength 2 30; lengthByTrying 2 30; walkPlaces 2 3; walkTime 2 32;
                passAt 2 0 5; passAt 2 1 IndexOutOfBounds;
                walkAt 2 1 2; walkAt 2 2 0; walkAt 2 3 IndexOutOfBounds;
                saving 0 1 0; saving 0 2 25; saving 1 0 0; saving 2 0 25; bestMerge 2;
                passAt 1 1 gone; walkAt 1 2 gone; walkAt 1 3 gone""");
        changes("mergeInto, no streets", x -> x.mergeInto(0, 2), "");
    }

    /** dispatch: "Lets the van deliver the parcel that it takes next", and no other post of its house. */
    private static void dispatch() {
        changes("dispatch", x -> x.dispatch(), "parcelState 2 d; nextParcel 1; vanClock 6; lateShare 0.25");
    }

    /** The same calls where the first parcels are delivered and the last ones wait, as Villages.evening() says. */
    private static void inTheEvening() {
        villageInTheEvening();
        postInTheEvening();
        roundsInTheEvening();
        evening("dispatch", x -> x.dispatch(), "parcelState 3 d; nextParcel NoSuchElement; vanClock 4");
        evening("newDay", x -> x.newDay(), """
                lettersOf 0 0; isDue 0 false; walkTo 0 UnsupportedOperation;
                lettersOf 1 0; isDue 1 false; walkTo 1 UnsupportedOperation; due 0 0; due 1 0; meanLetters Arithmetic;
                needed 0 0; walkLength 0 0; lengthByTrying 0 0; walkPlaces 0 1; walkTime 0 0;
                passAt 0 0 IndexOutOfBounds; walkAt 0 1 IndexOutOfBounds;
                needed 1 0; walkLength 1 0; lengthByTrying 1 0; walkPlaces 1 1; walkTime 1 0;
                passAt 1 0 IndexOutOfBounds; walkAt 1 1 IndexOutOfBounds;
                saving 0 1 0; saving 1 0 0; bestMerge NoSuchElement;
                parcelState 0 NoSuchElement; isHeavy 0 NoSuchElement; tripOf 0 NoSuchElement;
                parcelState 1 NoSuchElement; isHeavy 1 NoSuchElement; tripOf 1 NoSuchElement;
                parcelState 2 NoSuchElement; isHeavy 2 NoSuchElement; tripOf 2 NoSuchElement;
                parcelState 3 NoSuchElement; isHeavy 3 NoSuchElement; tripOf 3 NoSuchElement;
                nextParcel NoSuchElement; vanClock 0;
                passAt 0 1 gone; walkAt 0 2 gone; walkAt 0 3 gone;
                passAt 1 1 gone; walkAt 1 2 gone; walkAt 1 3 gone""");
    }

    private static void villageInTheEvening() {
        evening("addPlace", x -> x.addPlace(), """
                places 3; distance 0 2 -1; distanceByRounds 2 0 -1; distance 1 2 -1; distanceByRounds 2 1 -1;
                distance 2 2 0; distanceByRounds 2 2 0""");
        evening("addStreet", x -> x.addStreet(1, 0, 99, true), """
                streets 3; roundOf 2 -1; houseAt 2 0 0 IndexOutOfBounds; houseAt 2 1 0 IndexOutOfBounds;
                roundOf 3 NoSuchElement; houseAt 3 0 0 NoSuchElement; houseAt 3 1 0 NoSuchElement""");
        evening("addHouse", x -> x.addHouse(1, 1, 0), """
                houses 3; houseAt 1 1 0 2; houseAt 1 1 1 1; houseAt 1 1 2 IndexOutOfBounds;
                lettersOf 2 0; isDue 2 false; walkTo 2 UnsupportedOperation;
                lettersOf 3 NoSuchElement; isDue 3 NoSuchElement; walkTo 3 NoSuchElement""");
        evening("addRound", x -> x.addRound(9), """
                due 2 0; needed 2 0; hasWalk 2 true; walkLength 2 0; lengthByTrying 2 0; walkPlaces 2 1; walkTime 2 0;
                isInTime 2 true; passAt 2 0 IndexOutOfBounds; walkAt 2 0 0; walkAt 2 1 IndexOutOfBounds;
                saving 0 2 0; saving 1 2 0; saving 2 0 0; saving 2 1 0; saving 2 2 IllegalArgument""");
        evening("assign", x -> x.assign(0, 1), """
                roundOf 0 1; walkTo 1 10; due 0 0; due 1 2;
                needed 0 0; walkLength 0 0; lengthByTrying 0 0; walkPlaces 0 1; walkTime 0 0;
                passAt 0 0 IndexOutOfBounds; walkAt 0 1 IndexOutOfBounds;
                needed 1 2; walkLength 1 17; lengthByTrying 1 17; walkTime 1 22; isInTime 1 false;
                passAt 1 0 0; passAt 1 1 3; passAt 1 2 IndexOutOfBounds;
                saving 0 1 0; saving 1 0 0; bestMerge NoSuchElement;
                passAt 0 1 gone; walkAt 0 2 gone; walkAt 0 3 gone""");
    }

    private static void postInTheEvening() {
        evening("setBag", x -> x.setBag(8), "isHeavy 1 false; bag 8");
        evening("letters", x -> x.letters(1, 1), "lettersOf 1 5; meanLetters 3.5");
        evening("parcel", x -> x.parcel(0, 5, 9), "walkTime 0 20; parcelState 4 w; isHeavy 4 false; tripOf 4 2");
    }

    private static void roundsInTheEvening() {
        evening("deliver the one", x -> x.deliver(0), """
                lettersOf 0 0; isDue 0 false; walkTo 0 UnsupportedOperation; due 0 0; meanLetters 4.0;
                needed 0 0; walkLength 0 0; lengthByTrying 0 0; walkPlaces 0 1; walkTime 0 0;
                passAt 0 0 IndexOutOfBounds; walkAt 0 1 IndexOutOfBounds;
                saving 0 1 0; saving 1 0 0; bestMerge NoSuchElement; walked 34;
                passAt 0 1 gone; walkAt 0 2 gone; walkAt 0 3 gone""");
        evening("deliver the other", x -> x.deliver(1), """
                lettersOf 1 0; isDue 1 false; walkTo 1 UnsupportedOperation; due 1 0; meanLetters 2.0;
                needed 1 0; walkLength 1 0; lengthByTrying 1 0; walkPlaces 1 1; walkTime 1 0;
                passAt 1 0 IndexOutOfBounds; walkAt 1 1 IndexOutOfBounds;
                saving 0 1 0; saving 1 0 0; bestMerge NoSuchElement; parcelState 2 d; walked 31;
                passAt 1 1 gone; walkAt 1 2 gone; walkAt 1 3 gone""");
        evening("mergeInto", x -> x.mergeInto(0, 1), """
                roundOf 1 0; walkTo 1 10; due 0 2; due 1 0;
                needed 0 2; walkTime 0 22; passAt 0 1 3; passAt 0 2 IndexOutOfBounds;
                needed 1 0; walkLength 1 0; lengthByTrying 1 0; walkPlaces 1 1; walkTime 1 0;
                passAt 1 0 IndexOutOfBounds; walkAt 1 1 IndexOutOfBounds;
                saving 0 1 0; saving 1 0 0; bestMerge NoSuchElement;
                passAt 1 1 gone; walkAt 1 2 gone; walkAt 1 3 gone""");
    }

    private static void changes(String what, On call, String due) {
        changes(Villages::ordinary, what, call, due);
    }

    private static void evening(String what, On call, String due) {
        changes(Villages::evening, what + " in the evening", call, due);
    }

    private static void changes(Make make, String what, On call, String due) {
        Map<String, String> before = answers(make, x -> null);
        Map<String, String> after = answers(make, call);
        List<String> differing = new ArrayList<>();
        for (String question : after.keySet()) {
            if (!after.get(question).equals(before.get(question))) {
                differing.add(question + " " + after.get(question));
            }
        }
        for (String question : before.keySet()) {
            if (!after.containsKey(question)) {
                differing.add(question + " gone");
            }
        }
        Check.due(due.replace('\n', ' '), what + " changes", () -> String.join("; ", differing));
    }

    /** All questions with their answers; each part is asked on an object of its own, so that no run is too long. */
    private static Map<String, String> answers(Make make, On call) {
        Map<String, String> answers = new LinkedHashMap<>();
        for (Shown.Part part : Shown.QUESTIONS) {
            Candleford x = make.village();
            call.answer(x);
            for (String answer : Shown.of(x, part).split("; ")) {
                int end = answer.lastIndexOf(' ');
                String given = answer.substring(end + 1).replaceAll("throws\\.(\\w+)Exception", "$1");
                answers.put(answer.substring(0, end), given);
            }
        }
        Candleford x = make.village();
        call.answer(x);
        answers.put("bag", Check.answerOf(() -> x.setBag(0)));
        return answers;
    }
}
