import java.lang.reflect.Constructor;
import java.lang.reflect.Field;
import java.lang.reflect.Method;
import java.math.BigInteger;
import java.util.Random;

/**
 * The whole numbers inside, against the library's. The face reaches some turns of a division once in 10^9 times: here
 * the limbs are of such sorts that they come often.
 */
final class ArithmeticTest {
    private static final Check CHECK = new Check("ArithmeticTest");
    private static final BigInteger BASE = BigInteger.valueOf(1_000_000_000);
    private static final int[] LIMBS = {0, 0, 1, 2, 499_999_999, 500_000_000, 500_000_001, 999_999_998, 999_999_999};
    private static final Class<?> BIG = inside("Big");
    private static final Class<?> FRACTION = inside("Fraction");

    private final Random random = new Random(7);
    private final Object division = make(inside("Division"));
    private final Object sum = make(inside("Sum"));

    public static void main(String[] args) throws ReflectiveOperationException {
        ArithmeticTest test = new ArithmeticTest();
        for (int round = 0; round < 60_000; round++) {
            test.divide(test.number(24), test.number(1 + test.random.nextInt(12)));
        }
        test.divideNearMultiples();
        test.divideByHalfTheBase();
        for (int round = 0; round < 20_000; round++) {
            test.sums();
            test.reduce(test.number(10), test.number(8));
        }
        CHECK.end();
    }

    private static Class<?> inside(String name) {
        for (Class<?> type : RowSolver.class.getDeclaredClasses()) {
            if (type.getSimpleName().equals(name)) {
                return type;
            }
        }
        throw new IllegalStateException(name);
    }

    private static Object make(Class<?> type, Object... room) {
        try {
            Constructor<?> constructor = type.getDeclaredConstructors()[0];
            constructor.setAccessible(true);
            return constructor.newInstance(room);
        } catch (ReflectiveOperationException e) {
            throw new IllegalStateException(e);
        }
    }

    private static Field field(Object object, String name) throws ReflectiveOperationException {
        Field field = object.getClass().getDeclaredField(name);
        field.setAccessible(true);
        return field;
    }

    private static void call(Object object, String name, Object... arguments) throws ReflectiveOperationException {
        for (Method method : object.getClass().getDeclaredMethods()) {
            if (method.getName().equals(name) && method.getParameterCount() == arguments.length) {
                method.setAccessible(true);
                method.invoke(object, arguments);
                return;
            }
        }
        throw new IllegalStateException(name);
    }

    private BigInteger number(int limbs) {
        BigInteger number = BigInteger.ZERO;
        int length = 1 + random.nextInt(limbs);
        for (int k = 0; k < length; k++) {
            int limb = random.nextInt(4) == 0 ? random.nextInt(1_000_000_000) : LIMBS[random.nextInt(LIMBS.length)];
            number = number.multiply(BASE).add(BigInteger.valueOf(limb));
        }
        return random.nextBoolean() ? number : number.negate();
    }

    private static Object big(BigInteger number, int room) throws ReflectiveOperationException {
        Object big = make(BIG, room);
        fill(big, number);
        return big;
    }

    private static void fill(Object big, BigInteger number) throws ReflectiveOperationException {
        int[] limbs = (int[]) field(big, "limbs").get(big);
        int length = 0;
        for (BigInteger rest = number.abs(); rest.signum() > 0; rest = rest.divide(BASE)) {
            limbs[length++] = rest.mod(BASE).intValue();
        }
        field(big, "length").setInt(big, length);
        field(big, "sign").setInt(big, number.signum());
    }

    private static BigInteger read(Object big) throws ReflectiveOperationException {
        int[] limbs = (int[]) field(big, "limbs").get(big);
        BigInteger number = BigInteger.ZERO;
        int length = field(big, "length").getInt(big);
        boolean isWithin = true;
        for (int k = length - 1; k >= 0; k--) {
            number = number.multiply(BASE).add(BigInteger.valueOf(limbs[k]));
            isWithin &= limbs[k] >= 0 && limbs[k] < 1_000_000_000;
        }
        CHECK.due("limbs of " + number, isWithin ? 1 : 0, 1);
        int sign = field(big, "sign").getInt(big);
        boolean isTrimmed = length == 0 ? sign == 0 : limbs[length - 1] != 0 && sign != 0;
        CHECK.due("length and sign of " + number, isTrimmed ? 1 : 0, 1);
        return sign < 0 ? number.negate() : number;
    }

    private static void same(String what, BigInteger got, BigInteger want) {
        CHECK.due(what + ": " + got + " for " + want, got.equals(want) ? 1 : 0, 1);
    }

    private void divide(BigInteger number, BigInteger by) throws ReflectiveOperationException {
        if (by.signum() == 0) {
            return;
        }
        call(division, "divide", big(number, 40), big(by, 40));
        same("quotient", read(field(division, "quotient").get(division)), number.abs().divide(by.abs()));
        same("rest", read(field(division, "rest").get(division)), number.abs().mod(by.abs()));
    }

    /** Where a guess of a digit is one too high even after it was looked at. */
    private void divideNearMultiples() throws ReflectiveOperationException {
        for (int round = 0; round < 60_000; round++) {
            BigInteger by = number(8).abs().add(BigInteger.ONE);
            BigInteger near = by.multiply(number(6).abs()).add(BigInteger.valueOf(random.nextInt(5) - 2));
            divide(near, by);
        }
    }

    /** Where a guess is one too high, and what is added back does not carry from its lowest limb. */
    private void divideByHalfTheBase() throws ReflectiveOperationException {
        BigInteger half = BASE.shiftRight(1);
        for (int zeros = 1; zeros <= 5; zeros++) {
            BigInteger number = half.subtract(BigInteger.ONE).multiply(BASE).add(half).multiply(BASE.pow(zeros + 1));
            for (int low = 1; low <= 5; low++) {
                BigInteger by = half.multiply(BASE.pow(zeros + 1)).add(BigInteger.valueOf(low));
                for (int shift = 0; shift <= 3; shift++) {
                    divide(number.multiply(BASE.pow(shift)).add(BigInteger.valueOf(shift)), by);
                    divide(number.multiply(BASE.pow(shift)), by.multiply(BigInteger.TWO).subtract(BigInteger.ONE));
                }
            }
        }
    }

    private void sums() throws ReflectiveOperationException {
        call(sum, "clear");
        BigInteger due = BigInteger.ZERO;
        int parts = 1 + random.nextInt(4);
        for (int k = 0; k < parts; k++) {
            BigInteger one = number(8);
            BigInteger two = number(8);
            int turn = random.nextBoolean() ? 1 : -1;
            call(sum, "addProduct", big(one, 8), big(two, 8), turn);
            due = due.add(one.multiply(two).multiply(BigInteger.valueOf(turn)));
            BigInteger three = random.nextInt(3) == 0 ? due.negate() : number(8);
            long times = random.nextInt(3) == 0 ? 1 : random.nextLong() % 2_000_000_000_000_000_002L;
            call(sum, "addTimes", big(three, 60), times);
            due = due.add(three.multiply(BigInteger.valueOf(times)));
        }
        Object target = make(BIG, 60);
        call(sum, "store", target);
        same("sum", read(target), due);
    }

    private void reduce(BigInteger above, BigInteger below) throws ReflectiveOperationException {
        BigInteger common = random.nextBoolean() ? BigInteger.ONE : number(4).abs().max(BigInteger.ONE);
        BigInteger under = below.abs().max(BigInteger.ONE).multiply(common);
        BigInteger over = above.multiply(common);
        Object fraction = make(FRACTION, 40);
        fill(field(fraction, "above").get(fraction), over);
        fill(field(fraction, "below").get(fraction), under);
        call(division, "reduce", fraction);
        BigInteger by = over.gcd(under);
        same("reduced above", read(field(fraction, "above").get(fraction)), over.divide(by));
        same("reduced below", read(field(fraction, "below").get(fraction)), under.divide(by));
    }
}
