import java.util.ArrayList;

/** Fasteners in wood: their rules, what they hold, and where they may stand. */
public final class NailRules {
    public static final int NONE = -1;

    private static final int KINDS = 4;
    private static final int NAIL = 0;
    private static final int SCREW = 1;
    private static final int BOLT = 2;
    private static final int DOWEL = 3;

    private static final int SIZE = 0;
    private static final int FORCE = 1;
    private static final int EDGE = 2;
    private static final int END = 3;
    private static final int SIDE = 4;
    private static final int ROW = 5;
    private static final int THIN = 6;
    private static final int WORDS = 7;

    private static final int MOST_STATEMENTS = 16;
    private static final int MOST_PLACES = 32;
    private static final int MOST_MEMBERS = 6;
    private static final int MOST_IN_PATTERN = 100;
    private static final int MOST_TOGETHER = 1000;
    private static final int MOST_COUNTED = 100;
    private static final long MOST_HELD = 1000000000000L;
    private static final int LONGEST_PLATE = 100000;
    private static final int FARTHEST = 10000;
    private static final int FORMULAS = 4;
    private static final int LEAST_PERCENT = 50;
    private static final int FIRST_PAIR = 100;

    private final Text text;
    private final int[] rules;
    private int wet;
    private int less;
    private final int[] patternX;
    private final int[] patternY;
    private int patternCount;
    private final int[] placeX;
    private final int[] placeY;
    private int placeCount;
    private final ArrayList<Member> members;

    public NailRules() {
        text = new Text();
        rules = new int[KINDS * WORDS];
        for (int i = 0; i < rules.length; i++) {
            rules[i] = 1;
        }
        wet = 100;
        less = 2;
        patternX = new int[MOST_IN_PATTERN];
        patternY = new int[MOST_IN_PATTERN];
        patternCount = 0;
        placeX = new int[MOST_PLACES];
        placeY = new int[MOST_PLACES];
        placeCount = 0;
        members = new ArrayList<Member>();
    }

    public boolean unit(int u) {
        return text.append(u);
    }

    public int read() {
        int answer = readStatements();
        text.empty();
        return answer;
    }

    public int rule(int kind, int what) throws IndexOutOfBoundsException {
        requireIndex(kind, KINDS);
        requireIndex(what, WORDS);
        return told(kind, what);
    }

    public void set(int what, int percent) throws IndexOutOfBoundsException, IllegalArgumentException {
        requireIndex(what, 2);
        if (what == 0) {
            requireWithin(percent, 1, 100);
            wet = percent;
        } else {
            requireWithin(percent, 0, 100);
            less = percent;
        }
    }

    public long holds(int kind, int a, int b, int angle, int part)
            throws IndexOutOfBoundsException, IllegalArgumentException {
        requireIndex(kind, KINDS);
        requireIndex(part, 2);
        requireWithin(a, 1, 1000);
        requireWithin(b, 1, 1000);
        requireWithin(angle, 0, 90);
        int least = leastFormula(kind, a, b);
        if (part == 1) {
            return least;
        }
        long turned = formula(least, kind, a, b) * (200 - angle) / 200;
        return turned * wet / 100;
    }

    public long together(int n, long one) throws IllegalArgumentException {
        requireWithin(n, 0, MOST_TOGETHER);
        requireWithin(one, 0, MOST_HELD);
        return heldByRow(n, one);
    }

    public int count(long load, long one) throws IllegalArgumentException {
        requireWithin(load, 0, MOST_HELD);
        requireWithin(one, 0, MOST_HELD);
        // A longer row may hold less than a shorter one, so each is tried in turn.
        for (int n = 1; n <= MOST_COUNTED; n++) {
            if (heldByRow(n, one) >= load) {
                return n;
            }
        }
        return NONE;
    }

    public boolean pattern(int kind, int w, int h, int n)
            throws IndexOutOfBoundsException, IllegalArgumentException {
        requireIndex(kind, KINDS);
        requireWithin(w, 1, LONGEST_PLATE);
        requireWithin(h, 1, LONGEST_PLATE);
        requireWithin(n, 1, MOST_IN_PATTERN);
        int columns = fitting(w, space(kind, END), space(kind, SIDE));
        int rows = fitting(h, space(kind, EDGE), space(kind, ROW));
        if ((long) columns * rows < n) {
            return false;
        }
        layOut(kind, columns, n);
        return true;
    }

    public int at(int k, int axis) throws IllegalStateException, IndexOutOfBoundsException {
        if (patternCount == 0) {
            throw new IllegalStateException("there is no pattern");
        }
        requireIndex(k, patternCount);
        requireIndex(axis, 2);
        return axis == 0 ? patternX[k] : patternY[k];
    }

    public int place(int x, int y) throws IllegalArgumentException, IllegalStateException {
        requireWithin(x, 0, LONGEST_PLATE);
        requireWithin(y, 0, LONGEST_PLATE);
        if (placeCount >= MOST_PLACES) {
            throw new IllegalStateException("there is no room for a place");
        }
        placeX[placeCount] = x;
        placeY[placeCount] = y;
        placeCount++;
        return placeCount;
    }

    public void clear() {
        placeCount = 0;
    }

    public int keeps(int kind, int w, int h) throws IndexOutOfBoundsException, IllegalArgumentException {
        requireIndex(kind, KINDS);
        requireWithin(w, 1, LONGEST_PLATE);
        requireWithin(h, 1, LONGEST_PLATE);
        int nearSide = firstNearSide(kind, w, h);
        if (nearSide != NONE) {
            return 1 + nearSide;
        }
        int nearPair = firstNearPair(space(kind, SIDE));
        return nearPair == NONE ? 0 : FIRST_PAIR + nearPair;
    }

    public int member(int x0, int y0, int x1, int y1, int wide)
            throws IllegalArgumentException, IllegalStateException {
        requireWithin(x0, -FARTHEST, FARTHEST);
        requireWithin(y0, -FARTHEST, FARTHEST);
        requireWithin(x1, -FARTHEST, FARTHEST);
        requireWithin(y1, -FARTHEST, FARTHEST);
        if (x0 == x1 && y0 == y1) {
            throw new IllegalArgumentException("both ends are one");
        }
        requireWithin(wide, 1, 10000);
        if (members.size() >= MOST_MEMBERS) {
            throw new IllegalStateException("there is no room for a member");
        }
        members.add(new Member(x0, y0, x1, y1, wide));
        return members.size() - 1;
    }

    public boolean in(int member, int x, int y) throws IndexOutOfBoundsException, IllegalArgumentException {
        requireIndex(member, members.size());
        requireWithin(x, -FARTHEST, FARTHEST);
        requireWithin(y, -FARTHEST, FARTHEST);
        return members.get(member).grips(x, y);
    }

    public int teeth(int member, int x, int y, int w, int h, int step)
            throws IndexOutOfBoundsException, IllegalArgumentException {
        requireIndex(member, members.size());
        requireWithin(x, -FARTHEST, FARTHEST);
        requireWithin(y, -FARTHEST, FARTHEST);
        requireWithin(w, 0, 1000);
        requireWithin(h, 0, 1000);
        requireWithin(step, 10, 1000);
        Member wood = members.get(member);
        int gripping = 0;
        for (int across = 0; across <= w; across += step) {
            for (int down = 0; down <= h; down += step) {
                if (wood.grips(x + across, y + down)) {
                    gripping++;
                }
            }
        }
        return gripping;
    }

    public boolean thick(int kind, int thick) throws IndexOutOfBoundsException, IllegalArgumentException {
        requireIndex(kind, KINDS);
        if (thick < 0) {
            throw new IllegalArgumentException("a thickness below 0");
        }
        return thick >= space(kind, THIN);
    }

    public int hole(int kind) throws IndexOutOfBoundsException {
        requireIndex(kind, KINDS);
        int size = told(kind, SIZE);
        switch (kind) {
            case NAIL:
                return size > 50 ? size * 7 / 10 : 0;
            case SCREW:
                return size * 7 / 10;
            case BOLT:
                return size + 10;
            default:
                return size;
        }
    }

    private static void requireIndex(int index, int bound) {
        if (index < 0 || index >= bound) {
            throw new IndexOutOfBoundsException("there is no such kind, part, place, member or axis");
        }
    }

    private static void requireWithin(long number, long least, long most) {
        if (number < least || number > most) {
            throw new IllegalArgumentException("a number is not within its bounds");
        }
    }

    private int told(int kind, int what) {
        return rules[kind * WORDS + what];
    }

    /** A rule that is told in SIZES; four digits times four digits stay within an int. */
    private int space(int kind, int what) {
        return told(kind, what) * told(kind, SIZE);
    }

    private int readStatements() {
        text.rewind();
        for (int statements = 1; statements <= MOST_STATEMENTS; statements++) {
            if (!readStatement()) {
                return text.fault();
            }
            if (text.ended()) {
                return statements;
            }
            // Behind the last statement that a text may have, even a semicolon can't be there.
            if (statements == MOST_STATEMENTS || !text.take(';')) {
                return text.fault();
            }
        }
        return text.fault();
    }

    /** Sets at once what is read, since a fault that comes later keeps only what is behind it from being set. */
    private boolean readStatement() {
        int kind = text.takeKind();
        if (kind == NONE || !text.take(' ')) {
            return false;
        }
        int what = text.takeWord();
        if (what == NONE || !text.take(' ')) {
            return false;
        }
        int number = text.takeNumber();
        if (number == NONE) {
            return false;
        }
        rules[kind * WORDS + what] = number;
        return true;
    }

    private int leastFormula(int kind, int a, int b) {
        int least = 0;
        for (int which = 1; which < FORMULAS; which++) {
            if (formula(which, kind, a, b) < formula(least, kind, a, b)) {
                least = which;
            }
        }
        return least;
    }

    private long formula(int which, int kind, int a, int b) {
        long size = told(kind, SIZE);
        long force = told(kind, FORCE);
        switch (which) {
            case 0:
                return force * a * size;
            case 1:
                return force * b * size;
            case 2:
                return force * (a + b) * size / 2;
            default:
                return force * size * size * 4;
        }
    }

    private long heldByRow(int n, long one) {
        int percent = Math.max(LEAST_PERCENT, 100 - less * (n - 1));
        return n * one * percent / 100;
    }

    private static int fitting(int length, int margin, int gap) {
        int left = length - 2 * margin;
        if (left < 0 || gap < 1) {
            return 0;
        }
        return left / gap + 1;
    }

    /** Keeps the places themselves, since the rules may change while the pattern stays. */
    private void layOut(int kind, int columns, int n) {
        int column = 0;
        int row = 0;
        for (int k = 0; k < n; k++) {
            patternX[k] = space(kind, END) + column * space(kind, SIDE);
            patternY[k] = space(kind, EDGE) + row * space(kind, ROW);
            column++;
            if (column == columns) {
                column = 0;
                row++;
            }
        }
        patternCount = n;
    }

    private int firstNearSide(int kind, int w, int h) {
        int end = space(kind, END);
        int edge = space(kind, EDGE);
        for (int k = 0; k < placeCount; k++) {
            int nearestEnd = Math.min(placeX[k], w - placeX[k]);
            int nearestEdge = Math.min(placeY[k], h - placeY[k]);
            if (nearestEnd < end || nearestEdge < edge) {
                return k;
            }
        }
        return NONE;
    }

    private int firstNearPair(long apart) {
        for (int a = 0; a < placeCount; a++) {
            for (int b = a + 1; b < placeCount; b++) {
                if (squareBetween(a, b) < apart * apart) {
                    return a * MOST_PLACES + b;
                }
            }
        }
        return NONE;
    }

    private long squareBetween(int a, int b) {
        long across = placeX[a] - placeX[b];
        long down = placeY[a] - placeY[b];
        return across * across + down * down;
    }

    private static String wordOf(int what) {
        switch (what) {
            case SIZE:
                return "size";
            case FORCE:
                return "force";
            case EDGE:
                return "edge";
            case END:
                return "end";
            case SIDE:
                return "side";
            case ROW:
                return "row";
            default:
                return "thin";
        }
    }

    /** The text as it has been told, and how far it is read: a take that fails stays at the fault. */
    private static final class Text {
        private static final int ROOM = 200;
        private static final int MOST_DIGITS = 4;
        /** No character of a text, so that it is none of those that may come. */
        private static final int TEXT_END = -1;

        private final char[] units;
        private int length;
        private int next;

        private Text() {
            units = new char[ROOM];
            length = 0;
            next = 0;
        }

        private boolean append(int u) {
            if (length >= ROOM || u < 32 || u > 126) {
                return false;
            }
            units[length] = (char) u;
            length++;
            return true;
        }

        private void empty() {
            length = 0;
        }

        private void rewind() {
            next = 0;
        }

        private boolean ended() {
            return next >= length;
        }

        private int fault() {
            return -1 - next;
        }

        private int look(int index) {
            return index >= 0 && index < length ? units[index] : TEXT_END;
        }

        private boolean take(char wanted) {
            if (look(next) != wanted) {
                return false;
            }
            next++;
            return true;
        }

        private int takeKind() {
            int kind = kindOf(look(next));
            if (kind != NONE) {
                next++;
            }
            return kind;
        }

        private static int kindOf(int u) {
            switch (u) {
                case 'n':
                    return NAIL;
                case 's':
                    return SCREW;
                case 'b':
                    return BOLT;
                case 'd':
                    return DOWEL;
                default:
                    return NONE;
            }
        }

        /** Words begin alike, so the fault is where the one that goes furthest breaks off. */
        private int takeWord() {
            int furthest = 0;
            for (int what = 0; what < WORDS; what++) {
                String word = wordOf(what);
                int alike = unitsAlike(word);
                if (alike == word.length()) {
                    next += alike;
                    return what;
                }
                furthest = Math.max(furthest, alike);
            }
            next += furthest;
            return NONE;
        }

        private int unitsAlike(String word) {
            int alike = 0;
            while (alike < word.length() && look(next + alike) == word.charAt(alike)) {
                alike++;
            }
            return alike;
        }

        private int takeNumber() {
            int digits = 0;
            int number = 0;
            while (digits < MOST_DIGITS && isDigit(look(next + digits))) {
                number = number * 10 + (look(next + digits) - '0');
                digits++;
            }
            if (number == 0) {
                // Also where no digit stands at all: both faults are where the number begins.
                return NONE;
            }
            next += digits;
            return number;
        }

        private static boolean isDigit(int u) {
            return u >= '0' && u <= '9';
        }
    }

    /** A piece of wood along a line; all is compared by squares, so that nothing is rounded. */
    private static final class Member {
        private final long x0;
        private final long y0;
        private final long alongX;
        private final long alongY;
        private final long wide;

        private Member(int x0, int y0, int x1, int y1, int wide) {
            this.x0 = x0;
            this.y0 = y0;
            this.alongX = x1 - x0;
            this.alongY = y1 - y0;
            this.wide = wide;
        }

        private boolean grips(int x, int y) {
            long fromX = x - x0;
            long fromY = y - y0;
            long lengthSquare = alongX * alongX + alongY * alongY;
            long along = alongX * fromX + alongY * fromY;
            if (along < 0 || along > lengthSquare) {
                return false;
            }
            long beside = alongX * fromY - alongY * fromX;
            return 4 * beside * beside <= wide * wide * lengthSquare;
        }
    }
}
