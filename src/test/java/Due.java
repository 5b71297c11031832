/** Counts the answers that are not as due. */
final class Due {
    private static int wrong = 0;
    private static int looked = 0;

    private Due() {
    }

    static void is(String call, long got, long want) {
        looked++;
        if (got != want) {
            wrong++;
            if (wrong <= 50) {
                System.out.println(call + " answered " + got + ", due is " + want);
            }
        }
    }

    static void holds(String what, boolean isSo) {
        is(what, isSo ? 1 : 0, 1);
    }

    static void same(String what, String got, String want) {
        holds(what + ": " + got + " is " + want, got.equals(want));
    }

    static int wrong() {
        return wrong;
    }

    static void end(String test) {
        System.out.println(test + ": " + (looked - wrong) + " of " + looked + " as due");
        if (wrong != 0) {
            System.exit(1);
        }
    }
}
