import java.lang.reflect.InvocationTargetException;
import java.lang.reflect.Method;
import java.lang.reflect.Modifier;
import java.util.ArrayList;
import java.util.Comparator;
import java.util.List;
import java.util.Random;

/** All promises: runs of calls, made from fixed seeds, that Candleford and the plain Model must answer alike. */
public final class ModelTest {
    private static final int RUNS = 300;
    private static final int CALLS = 512;

    private final Random random;
    private final Candleford candleford = new Candleford();
    private final Model model = new Model();
    private final List<String> calls = new ArrayList<>();
    /** The greatest length of a street in this run: with short ones, many walks and ways are as long as another. */
    private final int greatestLength;
    private final int greatestLimit;
    private boolean isAlike = true;

    private ModelTest(long seed) {
        random = new Random(seed);
        greatestLength = random.nextBoolean() ? 3 : random.nextBoolean() ? 12 : 99;
        greatestLimit = random.nextBoolean() ? 999 : 30 * greatestLength / 3;
    }

    public static void main(String[] args) {
        List<Method> face = new ArrayList<>();
        for (Method method : Candleford.class.getDeclaredMethods()) {
            if (Modifier.isPublic(method.getModifiers())) {
                face.add(method);
            }
        }
        face.sort(Comparator.comparing(Method::getName));
        int[] answered = new int[face.size()];
        int wrong = 0;
        for (int seed = 0; seed < RUNS && wrong < 3; seed++) {
            ModelTest run = new ModelTest(seed);
            run.build();
            while (run.isAlike && run.calls.size() < CALLS) {
                int index = run.random.nextInt(face.size());
                if (run.isWanted(face.get(index).getName()) && run.call(face.get(index))) {
                    answered[index]++;
                }
            }
            if (!run.isAlike) {
                wrong++;
                System.out.println("run of seed " + seed + ":");
                run.calls.forEach(System.out::println);
            }
        }
        for (int index = 0; index < answered.length; index++) {
            if (answered[index] < RUNS / 10) {
                wrong++;
                System.out.println(face.get(index).getName() + " gave " + answered[index] + " answers, too few");
            }
        }
        System.out.println(RUNS + " runs, " + wrong + " wrong");
        System.exit(wrong == 0 ? 0 : 1);
    }

    private int upTo(int greatest) {
        return random.nextInt(greatest + 1);
    }

    private int length() {
        return 1 + upTo(greatestLength - 1);
    }

    private void build() {
        int places = 1 + upTo(9);
        for (int i = 1; i < places; i++) {
            call("addPlace");
        }
        int streets = places == 1 ? 0 : upTo(16);
        for (int i = 0; i < streets; i++) {
            call("addStreet", upTo(places - 1), upTo(places - 1), length(), random.nextBoolean());
        }
        int houses = model.streets() == 0 ? 0 : upTo(30);
        for (int i = 0; i < houses; i++) {
            call("addHouse", upTo(model.streets() - 1), upTo(1), upTo(greatestLength));
        }
        int rounds = upTo(4);
        for (int i = 0; i < rounds; i++) {
            call("addRound", 1 + upTo(greatestLimit - 1));
        }
        for (int i = 0; rounds > 0 && i < model.streets(); i++) {
            if (upTo(5) > 0) {
                call("assign", i, upTo(rounds - 1));
            }
        }
        call("setBag", 3);
    }

    /** Calls that change much are made less often. */
    private boolean isWanted(String name) {
        switch (name) {
            case "newDay":
                return upTo(6) == 0;
            case "addRound", "addPlace", "addStreet", "addHouse", "mergeInto":
                return upTo(3) == 0;
            case "setBag":
                return upTo(2) == 0;
            default:
                return true;
        }
    }

    private boolean call(Method method) {
        String name = method.getName();
        Class<?>[] types = method.getParameterTypes();
        Object[] values = new Object[types.length];
        for (int i = 0; i < types.length; i++) {
            values[i] = types[i] == boolean.class ? (Object) random.nextBoolean() : (Object) value(name, i);
        }
        return call(name, values);
    }

    /** Mostly a value that fits, sometimes one at an edge or outside. */
    private int value(String name, int place) {
        int outside = upTo(40);
        if (outside == 0) {
            return new int[] {-1, Integer.MIN_VALUE, Integer.MAX_VALUE, 100, 1000, 4, 10, 16, 20, 30}[upTo(9)];
        }
        switch (name) {
            case "addStreet":
                return place < 2 ? upTo(model.places() - (outside == 1 ? 0 : 1)) : length();
            case "addHouse":
                return place == 0 ? upTo(model.streets()) : place == 1 ? upTo(1) : upTo(greatestLength + 1);
            case "addRound":
                return upTo(greatestLimit);
            case "assign":
                return upTo(place == 0 ? model.streets() : 4);
            case "setBag":
                return upTo(7);
            case "letters":
                return place == 0 ? upTo(model.houses()) : upTo(21);
            case "parcel":
                return place == 0 ? upTo(model.houses()) : place == 1 ? upTo(8) : 1 + 10 * upTo(greatestLength);
            case "roundOf":
                return upTo(model.streets());
            case "houseAt":
                return place == 0 ? upTo(model.streets()) : place == 1 ? upTo(1) : upTo(4);
            case "lettersOf", "isDue", "walkTo":
                return upTo(model.houses());
            case "distance", "distanceByRounds":
                return upTo(model.places() - (outside == 1 ? 0 : 1));
            case "parcelState", "isHeavy", "tripOf":
                return upTo(outside < 10 ? 20 : 6);
            case "passAt", "walkAt":
                return place == 0 ? upTo(3) : upTo(name.equals("passAt") ? 5 : 12);
            default:
                return upTo(outside == 1 ? 4 : 3);
        }
    }

    /** Whether both answered, and not by an exception. */
    private boolean call(String name, Object... values) {
        String due = answer(model, name, values);
        String got = answer(candleford, name, values);
        StringBuilder line = new StringBuilder(name);
        for (Object value : values) {
            line.append(' ').append(value);
        }
        line.append(" answered ").append(got);
        if (!got.equals(due)) {
            isAlike = false;
            line.append(", due is ").append(due);
        }
        calls.add(line.toString());
        return !due.startsWith("throws.");
    }

    private static String answer(Object object, String name, Object[] values) {
        Class<?>[] types = new Class<?>[values.length];
        for (int i = 0; i < values.length; i++) {
            types[i] = values[i] instanceof Boolean ? boolean.class : int.class;
        }
        try {
            Method method = object.getClass().getDeclaredMethod(name, types);
            return String.valueOf(method.invoke(object, values));
        } catch (InvocationTargetException e) {
            return Check.thrown(e.getCause());
        } catch (ReflectiveOperationException e) {
            return "no such method";
        }
    }
}
