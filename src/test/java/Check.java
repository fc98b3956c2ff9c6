/** Counts what is as due and what is not. */
final class Check {
    private static int passed = 0;
    private static int failed = 0;

    private Check() {
    }

    static void same(String what, Object got, Object want) {
        if (want.equals(got)) {
            passed++;
        } else {
            failed++;
            System.out.println(what + " answered " + got + ", due is " + want);
        }
    }

    /** The call must throw exactly this kind and leave all that can be seen of the object as it was. */
    static void refuses(ConstrainedDelaunay d, String what, Class<?> kind, Runnable call) {
        String before = Picture.of(d);
        same(what, outcome(call), kind.getSimpleName());
        same(what + ": the state after it", Picture.of(d), before);
    }

    private static String outcome(Runnable call) {
        try {
            call.run();
            return "nothing thrown";
        } catch (RuntimeException thrown) {
            return thrown.getClass().getSimpleName();
        }
    }

    static void finish() {
        System.out.println(passed + " checks as due, " + failed + " not");
        if (failed > 0 || passed == 0) {
            System.exit(1);
        }
    }
}
