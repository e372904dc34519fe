/** Promises 37 to 41 and 43: the van. */
public final class VanTest {
    public static void main(String[] args) {
        nextParcel();
        tripOf();
        dispatch();
        noWay();
        lateShare();
        Check.end();
    }

    /** The streets 0 to 3 have their first ends 20, 10, 10 and no way from the post office; a house at each. */
    private static Candleford village() {
        Candleford x = new Candleford();
        for (int i = 0; i < 4; i++) {
            x.addPlace();
        }
        x.addStreet(2, 1, 10, true);
        x.addStreet(1, 0, 10, false);
        x.addStreet(1, 0, 99, true);
        x.addStreet(3, 4, 5, true);
        x.addHouse(0, 0, 1);
        x.addHouse(1, 1, 0);
        x.addHouse(2, 0, 99);
        x.addHouse(3, 1, 5);
        return x;
    }

    private static void nextParcel() {
        Candleford x = village();
        Check.noSuch("nextParcel without parcels", () -> x.nextParcel());
        x.parcel(1, 5, 1);
        Check.noSuch("nextParcel without heavy ones", () -> x.nextParcel());
        x.parcel(3, 6, 50);
        Check.due(1, "nextParcel, one alone though no way leads there", () -> x.nextParcel());
        x.parcel(0, 6, 50);
        Check.due(2, "nextParcel: no distance comes last", () -> x.nextParcel());
        x.parcel(2, 6, 50);
        Check.due(3, "nextParcel: the nearest first end", () -> x.nextParcel());
        x.parcel(1, 6, 50);
        Check.due(3, "nextParcel: the lowest number, whatever the offset", () -> x.nextParcel());
        x.parcel(0, 6, 49);
        Check.due(5, "nextParcel: the least deadline", () -> x.nextParcel());
        x.parcel(3, 6, 48);
        Check.due(6, "nextParcel: the least deadline though no way leads there", () -> x.nextParcel());
        x.parcel(3, 6, 48);
        Check.due(6, "nextParcel: the lowest number of two without distance", () -> x.nextParcel());
        x.setBag(4);
        Check.due(0, "nextParcel with a smaller bag", () -> x.nextParcel());
        x.setBag(6);
        Check.noSuch("nextParcel with a greater bag", () -> x.nextParcel());
        x.setBag(5);
        Check.due(6, "nextParcel changes nothing", () -> x.nextParcel());
    }

    private static void tripOf() {
        Candleford x = village();
        x.parcel(0, 9, 9);
        x.parcel(1, 1, 9);
        x.parcel(2, 9, 9);
        x.parcel(3, 9, 9);
        Check.due(14, "tripOf: 42 / 3", () -> x.tripOf(0));
        Check.due(7, "tripOf a parcel that is not heavy: 20 / 3, rounded up", () -> x.tripOf(1));
        Check.due(73, "tripOf: 218 / 3, rounded up", () -> x.tripOf(2));
        Check.unsupported("tripOf: no way", () -> x.tripOf(3));
        x.addHouse(1, 0, 1);
        x.parcel(4, 9, 9);
        Check.due(8, "tripOf: 22 / 3, rounded up", () -> x.tripOf(4));
        x.addStreet(4, 0, 3, true);
        Check.due(9, "tripOf over a new street: 26 / 3, rounded up", () -> x.tripOf(3));
        x.dispatch();
        Check.due(8, "tripOf when another one is delivered", () -> x.tripOf(4));
        x.dispatch();
        x.dispatch();
        x.dispatch();
        Check.due(14, "tripOf a parcel that is delivered", () -> x.tripOf(0));
        for (int bad : new int[] {-1, 5, 20, Integer.MAX_VALUE}) {
            Check.noSuch("tripOf(" + bad + ")", () -> x.tripOf(bad));
        }
        Candleford y = new Candleford();
        y.addPlace();
        y.addStreet(0, 1, 10, true);
        y.addHouse(0, 0, 0);
        y.parcel(0, 9, 1);
        Check.due(0, "tripOf at the post office", () -> y.tripOf(0));
        Check.due(false, "dispatch at the post office", () -> y.dispatch());
        Check.due(0, "vanClock after no way", () -> y.vanClock());
    }

    private static void dispatch() {
        Candleford x = village();
        Check.noSuch("dispatch without parcels", () -> x.dispatch());
        x.parcel(0, 6, 7);
        x.parcel(1, 6, 17);
        x.parcel(1, 6, 25);
        x.parcel(2, 6, 64);
        x.parcel(1, 2, 1);
        Check.due(0, "vanClock at first", () -> x.vanClock());
        Check.due(false, "dispatch: 14 - 7 is not greater than 7", () -> x.dispatch());
        Check.due(14, "vanClock", () -> x.vanClock());
        Check.due("d", "parcelState", () -> x.parcelState(0));
        Check.due(0, "late", () -> x.late());
        Check.due(true, "dispatch: 21 - 3 is greater than 17", () -> x.dispatch());
        Check.due(21, "vanClock", () -> x.vanClock());
        Check.due(1, "late", () -> x.late());
        Check.due(false, "dispatch: 28 - 3 is not greater than 25", () -> x.dispatch());
        Check.due(28, "vanClock", () -> x.vanClock());
        Check.due(true, "dispatch: 101 - 36 is greater than 64", () -> x.dispatch());
        Check.due(101, "vanClock", () -> x.vanClock());
        Check.due(2, "late", () -> x.late());
        Check.noSuch("dispatch when none is heavy", () -> x.dispatch());
        Check.due(101, "vanClock after a refused one", () -> x.vanClock());
        Check.due("w", "parcelState of one that is not heavy", () -> x.parcelState(4));
        Check.due(0.5f, "lateShare", () -> x.lateShare());
        x.newDay();
        Check.due(0, "vanClock on a new day", () -> x.vanClock());
        Check.due(2, "late on a new day", () -> x.late());
        Check.noSuch("dispatch on a new day", () -> x.dispatch());
    }

    private static void noWay() {
        Candleford x = village();
        x.parcel(3, 6, 1);
        x.parcel(0, 6, 50);
        Check.unsupported("dispatch: no way", () -> x.dispatch());
        Check.due("w", "parcelState after no way", () -> x.parcelState(0));
        Check.due(0, "vanClock after no way", () -> x.vanClock());
        Check.due(0, "late after no way", () -> x.late());
        Check.badDivision("lateShare after no way", () -> x.lateShare());
        Check.due(0, "nextParcel after no way", () -> x.nextParcel());
        x.addStreet(4, 0, 1, true);
        Check.due(true, "dispatch over a new street: 8 - 4 is greater than 1", () -> x.dispatch());
        Check.due(8, "vanClock", () -> x.vanClock());
        Check.due(1, "nextParcel then", () -> x.nextParcel());
    }

    private static void lateShare() {
        Candleford x = village();
        Check.badDivision("lateShare at first", () -> x.lateShare());
        x.parcel(1, 9, 1);
        x.parcel(1, 9, 900);
        x.parcel(1, 9, 901);
        x.parcel(1, 1, 901);
        Check.badDivision("lateShare before the first trip", () -> x.lateShare());
        Check.due(true, "dispatch, late", () -> x.dispatch());
        Check.due(1.0f, "lateShare of one", () -> x.lateShare());
        x.dispatch();
        x.dispatch();
        Check.due(1.0f / 3.0f, "lateShare of three", () -> x.lateShare());
        x.addRound(900);
        x.assign(1, 0);
        x.deliver(0);
        Check.due(1.0f / 3.0f, "lateShare: those of rounds do not count", () -> x.lateShare());
        x.newDay();
        Check.due(1.0f / 3.0f, "lateShare on a new day", () -> x.lateShare());
        x.parcel(1, 9, 1);
        x.dispatch();
        Check.due(0.5f, "lateShare of all days", () -> x.lateShare());
    }
}
