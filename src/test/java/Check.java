/** Counts checks, and tells those that fail. */
final class Check {
    private static int made;
    private static int wrong;
    private static String test = "";

    private Check() {
    }

    /** What the checks that follow are part of, "" for none. */
    static void within(String name) {
        test = name;
    }

    static void is(String what, Object got, Object want) {
        made++;
        if (!want.equals(got)) {
            wrong++;
            System.out.println((test.isEmpty() ? "" : test + "\n  ") + what + ": answered " + got + ", due is " + want);
        }
    }

    /** The call must throw exactly this class, and change nothing that the desk tells. */
    static void refuses(String what, TemplateScopes desk, Class<?> due, Runnable call) {
        long before = desk.digest();
        String thrown = "nothing";
        try {
            call.run();
        } catch (RuntimeException e) {
            thrown = e.getClass().getName();
        }
        is(what + " throws", thrown, due.getName());
        is(what + " changes nothing", desk.digest(), before);
    }

    static void end(String test) {
        System.out.println(test + ": " + made + " checks, " + wrong + " wrong");
        if (made == 0 || wrong != 0) {
            System.exit(1);
        }
    }
}
