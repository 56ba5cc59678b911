import java.util.Arrays;
import java.util.function.Supplier;

/** What the lists of arguments say alike of many methods. */
final class Edges implements Codes {
    private static final int MIN = Integer.MIN_VALUE;
    private static final int MAX = Integer.MAX_VALUE;
    /** Its ring is maximal, its canonical form is small, and it can be stored often. */
    private static final int[] PLAIN = {0, 1, -1, 0};

    private Edges() {
    }

    private static int[] put(int[] arguments, int place, int value) {
        int[] changed = arguments.clone();
        changed[place] = value;
        return changed;
    }

    static void taken(Calls x, long error, String name, int... arguments) {
        Check.holds("that " + name + " takes " + Arrays.toString(arguments), x.ask(name, arguments) != error);
    }

    /** At the place, low and high are taken, and what lies outside is refused; also what would wrap around to it. */
    static void range(Supplier<Calls> start, long error, int low, int high, int place, String name, int... arguments) {
        taken(start.get(), error, name, put(arguments, place, low));
        taken(start.get(), error, name, put(arguments, place, high));
        int[] outside = {low - 1, high + 1, low - 256, high + 256, low - 65536, high + 65536, MIN, MIN + 1, MAX, MAX - 1,
            1 << 30, 0x55555556, -(1 << 30)};
        for (int number : outside) {
            start.get().tells(error, name, put(arguments, place, number));
        }
    }

    /** Only the numbers of stored forms are taken at the place: in an empty, a small, a cleared and a full store. */
    static void form(long error, int place, String name, int... arguments) {
        int[] first = put(arguments, place, 0);
        new Calls().tells(error, name, first);
        Supplier<Calls> three = () -> Calls.with(0, 1, -1, 0, 0, 1, -1, 0, 0, 1, -1, 0);
        range(three, error, 0, 2, place, name, arguments);
        Calls cleared = three.get().does(3, "clearForms");
        cleared.tells(error, name, first);
        cleared.does(0, "addForm", PLAIN).tells(error, name, put(arguments, place, 1));
        taken(cleared, error, name, first);
        int[] all = new int[4 * 60];
        for (int i = 0; i < all.length; i++) {
            all[i] = PLAIN[i % 4];
        }
        range(() -> Calls.with(all), error, 0, 59, place, name, arguments);
    }

    static void register(Supplier<Calls> start, long error, int place, String name, int... arguments) {
        range(start, error, 0, 5, place, name, arguments);
    }

    /** All primes from 2 to 997 are taken as the second argument, and no other number is. */
    static void prime(String name) {
        Supplier<Calls> start = () -> Calls.with(PLAIN);
        int primes = 0;
        for (int number = -1100; number <= 1100; number++) {
            if (isPrime(number)) {
                primes++;
                taken(start.get(), BAD_VALUE, name, 0, number);
            } else {
                start.get().tells(BAD_VALUE, name, 0, number);
            }
        }
        Check.same("the number of primes", primes, 168);
        // Primes too, but larger ones; then squares and products of the largest; then what wraps around to 2.
        int[] others = {1009, 1013, 65537, MAX, 997 * 997, 991 * 997, 2 - 65536, 2 + 65536, 2 + 256 * 256 * 256, MIN, MIN + 2};
        for (int number : others) {
            start.get().tells(BAD_VALUE, name, 0, number);
        }
    }

    static boolean isPrime(int number) {
        if (number < 2 || number > 997) {
            return false;
        }
        for (int divisor = 2; divisor < number; divisor++) {
            if (number % divisor == 0) {
                return false;
            }
        }
        return true;
    }
}
