import java.lang.reflect.Field;

/** Promise 13: no run of calls leads astray, so the state is spoiled from outside to see that it is told. */
public final class AstrayTest {
    private static int wrong = 0;

    public static void main(String[] args) throws ReflectiveOperationException {
        String[] together = {"11110", "11000", "10100", "10000", "00000"};
        for (int one = 0; one < 5; one++) {
            for (int other = 0; other < 5; other++) {
                LockDesk desk = deskOfThree();
                spoil(desk, 84, one, 0);
                spoil(desk, 84, other, 2);
                due("two that hold " + one + " and " + other, desk.astray(), '1' - together[one].charAt(other));
            }
        }
        firstRequestCouldBeGranted();
        System.out.println(wrong == 0 ? "what is astray is told" : wrong + " wrong");
        if (wrong != 0) {
            System.exit(1);
        }
    }

    private static void firstRequestCouldBeGranted() throws ReflectiveOperationException {
        LockDesk desk = deskOfThree();
        desk.lock(0, 0, 2);
        desk.lock(1, 0, 4);
        desk.lock(2, 0, 2);
        due("the second request could be granted", desk.astray(), 0);
        holders(desk)[2] = 0;
        due("the first request could be granted", desk.astray(), 1);
        spoil(desk, 0, 1, 0);
        due("the first request could not be granted", desk.astray(), 0);
        spoil(desk, 0, 2, 2);
        due("one object, twice astray at most", desk.astray(), 1);
        spoil(desk, 1, 4, 0);
        spoil(desk, 1, 4, 1);
        due("two objects", desk.astray(), 2);
    }

    private static LockDesk deskOfThree() {
        LockDesk desk = new LockDesk();
        for (int i = 0; i < 3; i++) {
            desk.begin(1);
        }
        return desk;
    }

    private static void spoil(LockDesk desk, int object, int mode, int transaction)
            throws ReflectiveOperationException {
        holders(desk)[object * 5 + mode] |= 1L << transaction;
    }

    private static long[] holders(LockDesk desk) throws ReflectiveOperationException {
        Field field = LockDesk.class.getDeclaredField("holders");
        field.setAccessible(true);
        return (long[]) field.get(desk);
    }

    private static void due(String what, long got, long want) {
        if (got != want) {
            wrong++;
            System.out.println(what + ": " + got + ", due is " + want);
        }
    }
}
