import java.util.function.Consumer;
import java.util.function.Supplier;

/** What all tests share: they count what is wrong, and end with exit code 1 if anything is. */
final class Check {
    static final Class<?> INDEX = IndexOutOfBoundsException.class;
    static final Class<?> ARGUMENT = IllegalArgumentException.class;
    static final Class<?> STATE = IllegalStateException.class;

    private static int wrong = 0;

    private Check() {
    }

    static void same(String call, long got, long want) {
        if (got != want) {
            wrong++;
            System.out.println(call + " answered " + got + ", due is " + want);
        }
    }

    static void same(String call, String got, String want) {
        if (!got.equals(want)) {
            wrong++;
            System.out.println(call + " shows " + got + ", due is " + want);
        }
    }

    static void yes(String call, boolean got) {
        same(call, got ? 1 : 0, 1);
    }

    static void no(String call, boolean got) {
        same(call, got ? 1 : 0, 0);
    }

    /** The class itself is compared: what the machine throws is mostly a class below the one that is due. */
    static void fails(String call, Class<?> want, Runnable run) {
        Class<?> got = null;
        try {
            run.run();
        } catch (RuntimeException e) {
            got = e.getClass();
        }
        if (got != want) {
            wrong++;
            System.out.println(call + " threw " + got + ", due is " + want);
        }
    }

    /** The call throws what is due, and leaves an object that has something of everything as it was. */
    static void refuses(String call, Class<?> want, Consumer<NailRules> made) {
        refuses(call, want, State::busy, made);
    }

    /** The twin, on which the call is not made, shows what must be seen behind it. */
    static void refuses(String call, Class<?> want, Supplier<NailRules> object, Consumer<NailRules> made) {
        NailRules called = object.get();
        NailRules twin = object.get();
        fails(call, want, () -> made.accept(called));
        same("behind " + call, State.seen(called), State.seen(twin));
    }

    /** The call answers without an exception and changes nothing that can be seen. */
    static void leavesAll(String call, Supplier<NailRules> object, Consumer<NailRules> made) {
        refuses(call, null, object, made);
    }

    static void tell(NailRules rules, String text) {
        for (int i = 0; i < text.length(); i++) {
            yes("unit of \"" + text + "\" at " + i, rules.unit(text.charAt(i)));
        }
    }

    static void reads(NailRules rules, String text, int want) {
        tell(rules, text);
        same("read of \"" + text + "\"", rules.read(), want);
    }

    /** Each text on an object of its own, so that many of them stay within the calls of one. */
    static void reads(String text, int want) {
        reads(new NailRules(), text, want);
    }

    static NailRules with(String text) {
        NailRules rules = new NailRules();
        tell(rules, text);
        yes("read of \"" + text + "\"", rules.read() > 0);
        return rules;
    }

    static void end() {
        if (wrong != 0) {
            System.out.println(wrong + " answers are not as due");
            System.exit(1);
        }
    }
}
