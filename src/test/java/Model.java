import java.math.BigInteger;
import java.util.ArrayList;
import java.util.Arrays;
import java.util.List;
import java.util.regex.Matcher;
import java.util.regex.Pattern;

/**
 * The document a second time, by other means than the program's (patterns for texts, numbers without a bound,
 * every place of a plate looked at), so that a slip in one of them shows as a difference.
 */
final class Model {
    private static final String WORD_LIST = "size|force|edge|end|side|row|thin";
    private static final String STATEMENT = "[nsbd] (?:" + WORD_LIST + ") [0-9]{1,4}";
    private static final Pattern WHOLE = Pattern.compile(STATEMENT + "(?:;" + STATEMENT + "){0,15}");
    private static final Pattern NEXT = Pattern.compile("\\G;?([nsbd]) (" + WORD_LIST + ") ([0-9]{1,4})");
    private static final List<String> WORDS = List.of(WORD_LIST.split("\\|"));

    final StringBuilder text = new StringBuilder();
    final int[][] rules = new int[4][7];
    int wet = 100;
    int less = 2;
    List<int[]> pattern = null;
    final List<int[]> places = new ArrayList<>();
    final List<int[]> members = new ArrayList<>();

    Model() {
        for (int[] kind : rules) {
            Arrays.fill(kind, 1);
        }
    }

    private static void index(boolean there) {
        if (!there) {
            throw new IndexOutOfBoundsException();
        }
    }

    private static void within(long number, long least, long most) {
        if (number < least || number > most) {
            throw new IllegalArgumentException();
        }
    }

    private static void room(boolean there) {
        if (!there) {
            throw new IllegalStateException();
        }
    }

    boolean unit(int u) {
        if (text.length() == 200 || u < 32 || u > 126) {
            return false;
        }
        text.append((char) u);
        return true;
    }

    int read() {
        String all = text.toString();
        text.setLength(0);
        int fault = WHOLE.matcher(all).matches() ? -1 : shapeFault(all);
        Matcher next = NEXT.matcher(all);
        int statements = 0;
        while (statements < 16 && next.find() && (fault < 0 || next.end() <= fault)) {
            int number = Integer.parseInt(next.group(3));
            if (number == 0) {
                return -1 - next.start(3);
            }
            rules["nsbd".indexOf(next.group(1))][WORDS.indexOf(next.group(2))] = number;
            statements++;
        }
        return fault < 0 ? statements : -1 - fault;
    }

    /** The length of the longest beginning that a right text could have. */
    private static int shapeFault(String all) {
        int length = 0;
        for (int i = 1; i <= all.length(); i++) {
            Matcher begun = WHOLE.matcher(all.substring(0, i));
            if (begun.matches() || begun.hitEnd()) {
                length = i;
            } else {
                break;
            }
        }
        return length;
    }

    int rule(int kind, int what) {
        index(kind >= 0 && kind < 4 && what >= 0 && what < 7);
        return rules[kind][what];
    }

    void set(int what, int percent) {
        index(what == 0 || what == 1);
        within(percent, 1 - what, 100);
        if (what == 0) {
            wet = percent;
        } else {
            less = percent;
        }
    }

    long holds(int kind, int a, int b, int angle, int part) {
        index(kind >= 0 && kind < 4 && part >= 0 && part < 2);
        within(a, 1, 1000);
        within(b, 1, 1000);
        within(angle, 0, 90);
        BigInteger size = BigInteger.valueOf(rules[kind][0]);
        BigInteger force = BigInteger.valueOf(rules[kind][1]);
        BigInteger[] all = {
            force.multiply(BigInteger.valueOf(a)).multiply(size),
            force.multiply(BigInteger.valueOf(b)).multiply(size),
            force.multiply(BigInteger.valueOf(a + b)).multiply(size).shiftRight(1),
            force.multiply(size).multiply(size).shiftLeft(2),
        };
        int least = 3;
        for (int i = 2; i >= 0; i--) {
            if (all[i].compareTo(all[least]) <= 0) {
                least = i;
            }
        }
        if (part == 1) {
            return least;
        }
        return all[least].multiply(BigInteger.valueOf(200 - angle)).divide(BigInteger.valueOf(200))
            .multiply(BigInteger.valueOf(wet)).divide(BigInteger.valueOf(100)).longValueExact();
    }

    long together(int n, long one) {
        within(n, 0, 1000);
        within(one, 0, 1000000000000L);
        long percent = 100L - (long) less * (n - 1);
        if (percent < 50) {
            percent = 50;
        }
        return BigInteger.valueOf(n).multiply(BigInteger.valueOf(one)).multiply(BigInteger.valueOf(percent))
            .divide(BigInteger.valueOf(100)).longValueExact();
    }

    int count(long load, long one) {
        within(load, 0, 1000000000000L);
        within(one, 0, 1000000000000L);
        int least = -1;
        for (int n = 100; n >= 1; n--) {
            if (together(n, one) >= load) {
                least = n;
            }
        }
        return least;
    }

    boolean pattern(int kind, int w, int h, int n) {
        index(kind >= 0 && kind < 4);
        within(w, 1, 100000);
        within(h, 1, 100000);
        within(n, 1, 100);
        int size = rules[kind][0];
        List<int[]> found = new ArrayList<>();
        for (long y = (long) rules[kind][2] * size; y + (long) rules[kind][2] * size <= h; y += (long) rules[kind][5] * size) {
            for (long x = (long) rules[kind][3] * size; x + (long) rules[kind][3] * size <= w; x += (long) rules[kind][4] * size) {
                found.add(new int[] {(int) x, (int) y});
                if (found.size() == n) {
                    pattern = found;
                    return true;
                }
            }
        }
        return false;
    }

    int at(int k, int axis) {
        room(pattern != null);
        index(k >= 0 && k < pattern.size() && (axis == 0 || axis == 1));
        return pattern.get(k)[axis];
    }

    int place(int x, int y) {
        within(x, 0, 100000);
        within(y, 0, 100000);
        room(places.size() < 32);
        places.add(new int[] {x, y});
        return places.size();
    }

    void clear() {
        places.clear();
    }

    int keeps(int kind, int w, int h) {
        index(kind >= 0 && kind < 4);
        within(w, 1, 100000);
        within(h, 1, 100000);
        long size = rules[kind][0];
        for (int[] p : places) {
            boolean kept = p[0] >= rules[kind][3] * size && p[0] + rules[kind][3] * size <= w
                && p[1] >= rules[kind][2] * size && p[1] + rules[kind][2] * size <= h;
            if (!kept) {
                return 1 + places.indexOf(p);
            }
        }
        BigInteger apart = BigInteger.valueOf(rules[kind][4] * size).pow(2);
        for (int a = 0; a < places.size(); a++) {
            for (int b = a + 1; b < places.size(); b++) {
                BigInteger square = BigInteger.valueOf(places.get(a)[0] - places.get(b)[0]).pow(2)
                    .add(BigInteger.valueOf(places.get(a)[1] - places.get(b)[1]).pow(2));
                if (square.compareTo(apart) < 0) {
                    return 100 + 32 * a + b;
                }
            }
        }
        return 0;
    }

    int member(int x0, int y0, int x1, int y1, int wide) {
        within(x0, -10000, 10000);
        within(y0, -10000, 10000);
        within(x1, -10000, 10000);
        within(y1, -10000, 10000);
        within(x0 == x1 && y0 == y1 ? 0 : wide, 1, 10000);
        room(members.size() < 6);
        members.add(new int[] {x0, y0, x1, y1, wide});
        return members.size() - 1;
    }

    boolean in(int member, int x, int y) {
        index(member >= 0 && member < members.size());
        within(x, -10000, 10000);
        within(y, -10000, 10000);
        return grips(members.get(member), x, y);
    }

    /** By the three sides of the triangle of both ends and the tooth: no angle at an end is blunt. */
    private static boolean grips(int[] m, int x, int y) {
        BigInteger base = square(m[0], m[1], m[2], m[3]);
        BigInteger first = square(m[0], m[1], x, y);
        BigInteger second = square(m[2], m[3], x, y);
        if (first.compareTo(base.add(second)) > 0 || second.compareTo(base.add(first)) > 0) {
            return false;
        }
        // 16 times the triangle's area squared (Heron) is 4 * base * height squared.
        BigInteger heron = base.multiply(first).shiftLeft(2).subtract(base.add(first).subtract(second).pow(2));
        return heron.compareTo(base.multiply(BigInteger.valueOf(m[4]).pow(2))) <= 0;
    }

    private static BigInteger square(int x0, int y0, int x1, int y1) {
        return BigInteger.valueOf(x1 - x0).pow(2).add(BigInteger.valueOf(y1 - y0).pow(2));
    }

    int teeth(int member, int x, int y, int w, int h, int step) {
        index(member >= 0 && member < members.size());
        within(x, -10000, 10000);
        within(y, -10000, 10000);
        within(w, 0, 1000);
        within(h, 0, 1000);
        within(step, 10, 1000);
        int found = 0;
        for (int j = 0; j <= h / step; j++) {
            for (int i = 0; i <= w / step; i++) {
                found += grips(members.get(member), x + step * i, y + step * j) ? 1 : 0;
            }
        }
        return found;
    }

    boolean thick(int kind, int thick) {
        index(kind >= 0 && kind < 4);
        within(thick, 0, Integer.MAX_VALUE);
        return (long) rules[kind][6] * rules[kind][0] <= thick;
    }

    int hole(int kind) {
        index(kind >= 0 && kind < 4);
        int size = rules[kind][0];
        if (kind == 2) {
            return size + 10;
        }
        if (kind == 3) {
            return size;
        }
        return kind == 1 || size > 50 ? (size * 7 - size * 7 % 10) / 10 : 0;
    }
}
