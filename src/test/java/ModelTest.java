import java.util.Random;
import java.util.function.LongSupplier;

/** Long runs of calls, right and wrong ones, on the program and on the model: both must answer alike. */
public final class ModelTest {
    private static final int RUNS = 3000;
    private static final int CALLS = 512;
    private static final String KINDS = "nsbd";
    private static final String[] WORDS = {"size", "force", "edge", "end", "side", "row", "thin"};
    private static final int[] EXTREMES = {Integer.MIN_VALUE, Integer.MAX_VALUE, -1, 0, 1, 100001, 10001, -10001, 1001};

    private final Random random;
    private final NailRules program = new NailRules();
    private final Model model = new Model();
    private int calls = 0;

    private ModelTest(int seed) {
        random = new Random(seed);
    }

    public static void main(String[] args) {
        for (int seed = 0; seed < RUNS; seed++) {
            new ModelTest(seed).run(seed);
        }
        Check.end();
    }

    private void run(int seed) {
        while (calls < CALLS) {
            if (random.nextInt(8) == 0) {
                tellText(seed);
            } else {
                call(seed, random.nextInt(15));
            }
        }
    }

    /** An exception is written as its class, so that what the machine throws differs from what is due. */
    private static String answer(LongSupplier call) {
        try {
            return Long.toString(call.getAsLong());
        } catch (RuntimeException e) {
            return e.getClass().getName();
        }
    }

    private void alike(int seed, String call, LongSupplier got, LongSupplier want) {
        calls++;
        if (calls > CALLS) {
            return;
        }
        String answered = answer(got);
        String due = answer(want);
        if (!answered.equals(due)) {
            Check.no("seed " + seed + ", call " + calls + ": " + call + " answered " + answered + ", due is " + due, true);
        }
    }

    private int near(int least, int most) {
        int chance = random.nextInt(40);
        if (chance == 0) {
            return EXTREMES[random.nextInt(EXTREMES.length)];
        }
        if (chance == 1) {
            return random.nextBoolean() ? least - 1 : most + 1;
        }
        if (chance < 6) {
            return random.nextBoolean() ? least : most;
        }
        int span = most - least + 1;
        // Mostly small numbers, since with large ones hardly anything fits.
        return chance < 25 ? least + random.nextInt(Math.min(span, 300)) : least + random.nextInt(span);
    }

    private long force() {
        int chance = random.nextInt(30);
        if (chance == 0) {
            return random.nextBoolean() ? -1 : 1000000000001L;
        }
        if (chance == 1) {
            return random.nextBoolean() ? Long.MIN_VALUE : Long.MAX_VALUE;
        }
        if (chance == 2) {
            return 1000000000000L;
        }
        return chance < 20 ? random.nextInt(5000) : (long) (random.nextDouble() * 1e12);
    }

    private String text() {
        StringBuilder text = new StringBuilder();
        int statements = random.nextInt(12) == 0 ? 14 + random.nextInt(5) : 1 + random.nextInt(5);
        for (int i = 0; i < statements; i++) {
            text.append(i == 0 ? "" : ";").append(KINDS.charAt(random.nextInt(4))).append(' ')
                .append(statements > 12 ? "row" : WORDS[random.nextInt(7)]).append(' ').append(number());
        }
        int slip = random.nextInt(4);
        int where = random.nextInt(text.length());
        if (slip == 0) {
            text.setCharAt(where, "nsbd;0123456789 ezx".charAt(random.nextInt(19)));
        } else if (slip == 1 && random.nextBoolean()) {
            text.setLength(where);
        } else if (slip == 2 && random.nextBoolean()) {
            text.insert(where, "nsbd;0123456789 ezx".charAt(random.nextInt(19)));
        }
        return text.toString();
    }

    private String number() {
        int chance = random.nextInt(30);
        if (chance == 0) {
            return "00000".substring(random.nextInt(5));
        }
        if (chance == 1) {
            return "000" + (1 + random.nextInt(99));
        }
        return Integer.toString(1 + random.nextInt(chance < 20 ? 9 : chance < 28 ? 70 : 9999));
    }

    private void tellText(int seed) {
        String text = text();
        if (calls + text.length() >= CALLS) {
            calls = CALLS;
            return;
        }
        for (char c : text.toCharArray()) {
            alike(seed, "unit " + c, () -> program.unit(c) ? 1 : 0, () -> model.unit(c) ? 1 : 0);
        }
        if (random.nextInt(10) == 0) {
            int u = near(32, 126);
            alike(seed, "unit " + u, () -> program.unit(u) ? 1 : 0, () -> model.unit(u) ? 1 : 0);
        }
        if (random.nextInt(20) != 0) {
            alike(seed, "read of " + text, program::read, model::read);
        }
    }

    private void call(int seed, int which) {
        int kind = near(0, 3);
        switch (which) {
            case 0: {
                int what = near(0, 6);
                alike(seed, "rule", () -> program.rule(kind, what), () -> model.rule(kind, what));
                break;
            }
            case 1: {
                int what = near(0, 1);
                int percent = near(0, 100);
                alike(seed, "set", () -> { program.set(what, percent); return 0; }, () -> { model.set(what, percent); return 0; });
                break;
            }
            case 2: {
                int a = near(1, 1000);
                int b = near(1, 1000);
                int angle = near(0, 90);
                int part = near(0, 1);
                alike(seed, "holds", () -> program.holds(kind, a, b, angle, part), () -> model.holds(kind, a, b, angle, part));
                break;
            }
            case 3: {
                int n = near(0, 1000);
                long one = force();
                alike(seed, "together", () -> program.together(n, one), () -> model.together(n, one));
                break;
            }
            case 4: {
                long load = force();
                long one = random.nextBoolean() ? load / (1 + random.nextInt(60)) : force();
                alike(seed, "count", () -> program.count(load, one), () -> model.count(load, one));
                break;
            }
            default:
                callOnPlates(seed, which, kind);
        }
    }

    private void callOnPlates(int seed, int which, int kind) {
        int w = near(1, 100000);
        int h = near(1, 100000);
        switch (which) {
            case 5: {
                int n = near(1, 100);
                alike(seed, "pattern", () -> program.pattern(kind, w, h, n) ? 1 : 0, () -> model.pattern(kind, w, h, n) ? 1 : 0);
                break;
            }
            case 6: {
                int k = near(0, 99);
                int axis = near(0, 1);
                alike(seed, "at", () -> program.at(k, axis), () -> model.at(k, axis));
                break;
            }
            case 7: {
                int x = near(0, 100000);
                int y = near(0, 100000);
                alike(seed, "place", () -> program.place(x, y), () -> model.place(x, y));
                break;
            }
            case 8:
                if (random.nextInt(6) == 0) {
                    alike(seed, "clear", () -> { program.clear(); return 0; }, () -> { model.clear(); return 0; });
                }
                break;
            case 9: {
                int wide = random.nextBoolean() ? 100000 : w;
                int high = random.nextBoolean() ? 100000 : h;
                alike(seed, "keeps", () -> program.keeps(kind, wide, high), () -> model.keeps(kind, wide, high));
                break;
            }
            case 10: {
                int thick = near(0, 20000);
                alike(seed, "thick", () -> program.thick(kind, thick) ? 1 : 0, () -> model.thick(kind, thick) ? 1 : 0);
                break;
            }
            case 11:
                alike(seed, "hole", () -> program.hole(kind), () -> model.hole(kind));
                break;
            default:
                callOnMembers(seed, which);
        }
    }

    private int coordinate() {
        return random.nextInt(3) == 0 ? near(-10000, 10000) : random.nextInt(400) - 200;
    }

    private void callOnMembers(int seed, int which) {
        int number = near(0, Math.max(0, model.members.size() - 1));
        int x = coordinate();
        int y = coordinate();
        switch (which) {
            case 12: {
                int x1 = random.nextInt(5) == 0 ? x : coordinate();
                int y1 = random.nextInt(5) == 0 ? y : coordinate();
                int wide = near(1, 10000);
                alike(seed, "member", () -> program.member(x, y, x1, y1, wide), () -> model.member(x, y, x1, y1, wide));
                break;
            }
            case 13:
                alike(seed, "in", () -> program.in(number, x, y) ? 1 : 0, () -> model.in(number, x, y) ? 1 : 0);
                break;
            default: {
                int w = near(0, 1000);
                int h = near(0, 1000);
                int step = near(random.nextInt(5) == 0 ? 10 : 40, 1000);
                alike(seed, "teeth", () -> program.teeth(number, x, y, w, h, step), () -> model.teeth(number, x, y, w, h, step));
            }
        }
    }
}
