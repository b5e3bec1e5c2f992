/** What all tests share: they count what is wrong, and end with exit code 1 if anything is. */
final class Check {
    static final Class<?> INDEX = IndexOutOfBoundsException.class;
    static final Class<?> ARGUMENT = IllegalArgumentException.class;
    static final Class<?> STATE = IllegalStateException.class;

    private static int wrong = 0;

    private Check() {
    }

    static void same(String call, long got, long want) {
        if (got != want) {
            wrong++;
            System.out.println(call + " answered " + got + ", due is " + want);
        }
    }

    static void yes(String call, boolean got) {
        same(call, got ? 1 : 0, 1);
    }

    static void no(String call, boolean got) {
        same(call, got ? 1 : 0, 0);
    }

    /** The class itself is compared: what the machine throws is mostly a class below the one that is due. */
    static void fails(String call, Class<?> want, Runnable run) {
        Class<?> got = null;
        try {
            run.run();
        } catch (RuntimeException e) {
            got = e.getClass();
        }
        if (got != want) {
            wrong++;
            System.out.println(call + " threw " + got + ", due is " + want);
        }
    }

    static void tell(NailRules rules, String text) {
        for (int i = 0; i < text.length(); i++) {
            yes("unit of \"" + text + "\" at " + i, rules.unit(text.charAt(i)));
        }
    }

    static void reads(NailRules rules, String text, int want) {
        tell(rules, text);
        same("read of \"" + text + "\"", rules.read(), want);
    }

    static NailRules with(String text) {
        NailRules rules = new NailRules();
        tell(rules, text);
        yes("read of \"" + text + "\"", rules.read() > 0);
        return rules;
    }

    static void end() {
        if (wrong != 0) {
            System.out.println(wrong + " answers are not as due");
            System.exit(1);
        }
    }
}
