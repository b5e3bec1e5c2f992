/**
 * Promises 9 to 13: pattern, at, place, clear, keeps. Above a test stand the document's words whose edge it looks
 * at: the last input that they allow, and the first that they don't.
 */
public final class PatternTest {
    private static final String SPACES = "n size 10;n end 5;n edge 3;n side 4;n row 6";
    private static final int[] FAR = {Integer.MIN_VALUE, Integer.MAX_VALUE};

    public static void main(String[] args) {
        pattern();
        at();
        place();
        clear();
        keeps();
        Check.end();
    }

    private static void pattern() {
        patternGoesRowByRow();
        patternOfJustSoMany();
        patternOfOneColumnOrRow();
        patternWithNothingLeft();
        patternWithLessThanNothingLeft();
        patternCutsOff();
        patternOfEachKind();
        patternThatIsNoneStays();
        patternStaysUnderNewRules();
        patternOfTheLargestPlate();
        patternOfTheLargestSpaces();
        patternRefuses();
    }

    /** "the first n places, row by row: x = e + column * f, y = u + row * v". */
    private static void patternGoesRowByRow() {
        NailRules rules = Check.with(SPACES);
        Check.yes("33", rules.pattern(0, 500, 200, 33));
        for (int k = 0; k < 33; k++) {
            Check.same("x of " + k, rules.at(k, 0), 50 + k % 11 * 40);
            Check.same("y of " + k, rules.at(k, 1), 30 + k / 11 * 60);
        }
        Check.yes("5", rules.pattern(0, 500, 200, 5));
        Check.same("the fifth", rules.at(4, 0), 210);
        Check.fails("the sixth", Check.INDEX, () -> rules.at(5, 0));
    }

    /** "if there are n at least". */
    private static void patternOfJustSoMany() {
        NailRules rules = Check.with(SPACES);
        Check.yes("32 of 33", rules.pattern(0, 500, 200, 32));
        Check.yes("33 of 33", rules.pattern(0, 500, 200, 33));
        Check.no("34 of 33", rules.pattern(0, 500, 200, 34));
        Check.yes("one of one", rules.pattern(0, 100, 60, 1));
        Check.no("two of one", rules.pattern(0, 100, 60, 2));
        Check.yes("a hundred of a hundred", rules.pattern(0, 100 + 9 * 40, 60 + 9 * 60, 100));
        Check.same("x of the last", rules.at(99, 0), 50 + 9 * 40);
        Check.same("y of the last", rules.at(99, 1), 30 + 9 * 60);
        Check.no("a hundred of ninety", rules.pattern(0, 100 + 9 * 40 - 1, 60 + 9 * 60, 100));
    }

    private static void patternOfOneColumnOrRow() {
        NailRules rules = Check.with(SPACES);
        Check.yes("one column", rules.pattern(0, 100, 120, 2));
        Check.same("x in the second row", rules.at(1, 0), 50);
        Check.same("y in the second row", rules.at(1, 1), 90);
        Check.yes("one row", rules.pattern(0, 140, 60, 2));
        Check.same("x in the second column", rules.at(1, 0), 90);
        Check.same("y in the second column", rules.at(1, 1), 30);
    }

    /** "none of both, if what is left is below 0": at 0 there is one. */
    private static void patternWithNothingLeft() {
        NailRules rules = Check.with(SPACES);
        Check.yes("nothing left of both", rules.pattern(0, 100, 60, 1));
        Check.same("x", rules.at(0, 0), 50);
        Check.same("y", rules.at(0, 1), 30);
        Check.yes("a plate of 2 by 2 for a new kind", rules.pattern(3, 2, 2, 1));
        Check.same("x of a new kind", rules.at(0, 0), 1);
    }

    /** "none of both, if what is left is below 0": cut off towards 0, a little below would be one. */
    private static void patternWithLessThanNothingLeft() {
        NailRules rules = Check.with(SPACES);
        Check.no("1 below 0 along x", rules.pattern(0, 99, 60, 1));
        Check.no("1 below 0 along y", rules.pattern(0, 100, 59, 1));
        Check.no("1 below 0 along x, much along y", rules.pattern(0, 99, 100000, 1));
        Check.no("1 below 0 along y, much along x", rules.pattern(0, 100000, 59, 1));
        Check.no("1 below 0 along both", rules.pattern(0, 99, 59, 1));
        Check.no("the smallest plate", rules.pattern(3, 1, 1, 1));
        // Both counts would be below 0: their product must not be places.
        Check.no("far below 0 along both", Check.with("n size 100;n end 9;n edge 9").pattern(0, 10, 10, 4));
    }

    /** "(w - 2 * e) / f + 1 and .. (h - 2 * u) / v + 1 (cut off". */
    private static void patternCutsOff() {
        NailRules rules = Check.with(SPACES);
        Check.no("a second column not yet", rules.pattern(0, 139, 60, 2));
        Check.yes("a second column", rules.pattern(0, 140, 60, 2));
        Check.no("a third column not yet", rules.pattern(0, 179, 60, 3));
        Check.yes("a third column", rules.pattern(0, 180, 60, 3));
        Check.no("a second row not yet", rules.pattern(0, 100, 119, 2));
        Check.yes("a second row", rules.pattern(0, 100, 120, 2));
        Check.no("a third row not yet", rules.pattern(0, 100, 179, 3));
        Check.yes("a third row", rules.pattern(0, 100, 180, 3));
    }

    private static void patternOfEachKind() {
        NailRules rules = Check.with("s side 2;b end 3;d row 5;d edge 2");
        Check.yes("screws", rules.pattern(1, 6, 3, 4));
        Check.same("screw 2", rules.at(2, 0), 5);
        Check.same("screw 3", rules.at(3, 1), 2);
        Check.yes("bolts", rules.pattern(2, 7, 3, 3));
        Check.same("bolt 1", rules.at(1, 0), 4);
        Check.yes("dowels", rules.pattern(3, 2, 9, 2));
        Check.same("dowel 0", rules.at(0, 1), 2);
        Check.same("dowel 1", rules.at(1, 1), 7);
    }

    /** "whether there is one (else the one before stays)". */
    private static void patternThatIsNoneStays() {
        Check.leavesAll("a pattern of too many", State::busy, rules -> rules.pattern(0, 180, 200, 10));
        Check.leavesAll("a pattern on too small a plate", State::busy, rules -> rules.pattern(1, 1, 1, 1));
        Check.leavesAll("a pattern, where none was before", NailRules::new, rules -> rules.pattern(0, 1, 1, 1));
        NailRules rules = Check.with(SPACES);
        Check.yes("three", rules.pattern(0, 180, 60, 3));
        Check.no("none", rules.pattern(0, 180, 60, 4));
        Check.same("the one before", rules.at(2, 0), 130);
        Check.fails("still three", Check.INDEX, () -> rules.at(3, 0));
        Check.yes("a smaller one", rules.pattern(0, 140, 60, 1));
        Check.fails("just one", Check.INDEX, () -> rules.at(1, 0));
        NailRules none = new NailRules();
        Check.no("none fits", none.pattern(0, 1, 1, 1));
        Check.fails("and none is there", Check.STATE, () -> none.at(0, 0));
    }

    /** "the latest PATTERN": neither rules nor places that come later move it. */
    private static void patternStaysUnderNewRules() {
        NailRules rules = Check.with(SPACES);
        Check.yes("two", rules.pattern(0, 140, 60, 2));
        Check.reads(rules, "n size 20;n end 1", 2);
        rules.place(7, 7);
        rules.clear();
        Check.same("new rules leave x", rules.at(1, 0), 90);
        Check.same("new rules leave y", rules.at(1, 1), 30);
        Check.yes("by the new rules", rules.pattern(0, 200, 120, 2));
        Check.same("a new one", rules.at(1, 0), 100);
    }

    /** "w or h is not 1 .. 100000, or n not 1 .. 100": what is. */
    private static void patternOfTheLargestPlate() {
        NailRules rules = new NailRules();
        // As ints the counts of the next two plates would wrap around, to less than 0 and to 0.
        Check.yes("50000 by 50000 places", rules.pattern(0, 50001, 50001, 100));
        Check.yes("65536 by 65536 places", rules.pattern(0, 65537, 65537, 100));
        Check.yes("the largest plate", rules.pattern(0, 100000, 100000, 100));
        Check.same("x of the last", rules.at(99, 0), 100);
        Check.same("y of the last", rules.at(99, 1), 1);
        Check.yes("one column", rules.pattern(0, 2, 100000, 100));
        Check.same("the last below", rules.at(99, 1), 100);
        Check.no("w 1", rules.pattern(0, 1, 100000, 1));
        Check.no("h 1", rules.pattern(0, 100000, 1, 1));
    }

    private static void patternOfTheLargestSpaces() {
        NailRules wide = Check.with("n size 9999;n end 9999;s size 9999;s side 9999;b size 9999;b edge 9999;d size 9999;d row 9999");
        Check.no("far too wide", wide.pattern(0, 100000, 100000, 1));
        Check.no("far too high", wide.pattern(2, 100000, 100000, 1));
        Check.yes("one column of nine", wide.pattern(1, 100000, 100000, 9));
        Check.same("no second column", wide.at(8, 0), 9999);
        Check.same("ninth row", wide.at(8, 1), 9 * 9999);
        Check.no("no tenth row", wide.pattern(1, 100000, 100000, 10));
        Check.yes("one row of nine", wide.pattern(3, 100000, 100000, 9));
        Check.same("ninth column", wide.at(8, 0), 9 * 9999);
        Check.no("no tenth column", wide.pattern(3, 100000, 100000, 10));
    }

    /** "IndexOutOfBoundsException", named first; "w or h is not 1 .. 100000, or n not 1 .. 100". */
    private static void patternRefuses() {
        for (int bad : new int[] {-1, 4, FAR[0], FAR[1]}) {
            Check.refuses("kind " + bad, Check.INDEX, rules -> rules.pattern(bad, 10, 10, 1));
            Check.refuses("kind before w, h, n, " + bad, Check.INDEX, rules -> rules.pattern(bad, 0, 0, 0));
        }
        for (int bad : new int[] {0, 100001, -1, FAR[0], FAR[1]}) {
            Check.refuses("w " + bad, Check.ARGUMENT, rules -> rules.pattern(1, bad, 100, 1));
            Check.refuses("h " + bad, Check.ARGUMENT, rules -> rules.pattern(1, 100, bad, 1));
        }
        for (int bad : new int[] {0, 101, -1, FAR[0], FAR[1]}) {
            Check.refuses("n " + bad, Check.ARGUMENT, rules -> rules.pattern(1, 1000, 1000, bad));
            Check.refuses("n " + bad + " without room", Check.ARGUMENT, rules -> rules.pattern(1, 1, 1, bad));
        }
        Check.refuses("w 0 without a pattern", Check.ARGUMENT, NailRules::new, rules -> rules.pattern(0, 0, 10, 1));
    }

    private static void at() {
        atWithoutPattern();
        atRefuses();
    }

    /** "IllegalStateException: none (first)". */
    private static void atWithoutPattern() {
        Check.refuses("at(0, 0)", Check.STATE, NailRules::new, rules -> rules.at(0, 0));
        Check.refuses("at(0, 1)", Check.STATE, NailRules::new, rules -> rules.at(0, 1));
        Check.refuses("none before k", Check.STATE, NailRules::new, rules -> rules.at(-1, 0));
        Check.refuses("none before axis", Check.STATE, NailRules::new, rules -> rules.at(0, 2));
        Check.refuses("none before both", Check.STATE, NailRules::new, rules -> rules.at(100, -1));
    }

    /** "Place k of the latest PATTERN on an axis (0 x, 1 y)": k up to its last, and no other axis. */
    private static void atRefuses() {
        NailRules busy = State.busy();
        Check.same("x of the first", busy.at(0, 0), 50);
        Check.same("y of the first", busy.at(0, 1), 30);
        Check.same("x of the last", busy.at(4, 0), 90);
        Check.same("y of the last", busy.at(4, 1), 90);
        for (int bad : new int[] {-1, 5, 99, 100, FAR[0], FAR[1]}) {
            Check.refuses("k " + bad, Check.INDEX, rules -> rules.at(bad, 0));
            Check.refuses("k " + bad + " along y", Check.INDEX, rules -> rules.at(bad, 1));
        }
        for (int bad : new int[] {-1, 2, FAR[0], FAR[1]}) {
            Check.refuses("axis " + bad, Check.INDEX, rules -> rules.at(0, bad));
        }
        NailRules rules = new NailRules();
        Check.yes("the largest", rules.pattern(0, 1000, 1000, 100));
        Check.same("place 99", rules.at(99, 0), 100);
        Check.fails("place 100", Check.INDEX, () -> rules.at(100, 0));
    }

    private static void place() {
        placeCounts();
        placeHasRoomForThirtyTwo();
        placeAtItsBounds();
        placeRefuses();
    }

    /** "A PLACE more: how many there are": also one that is there already. */
    private static void placeCounts() {
        NailRules rules = new NailRules();
        Check.same("the first", rules.place(5, 6), 1);
        Check.same("the second", rules.place(6, 5), 2);
        Check.same("the second again", rules.place(6, 5), 3);
    }

    /** "there are 32". */
    private static void placeHasRoomForThirtyTwo() {
        NailRules rules = new NailRules();
        for (int i = 1; i <= 32; i++) {
            Check.same("place " + i, rules.place(i * 10, i * 10), i);
        }
        Check.fails("place 33", Check.STATE, () -> rules.place(1, 1));
        Check.same("all 32 are as before", rules.keeps(0, 330, 330), 0);
        Check.same("the last one counts", rules.keeps(0, 320, 330), 32);
        Check.refuses("a place more", Check.STATE, State::full, full -> full.place(1, 1));
        Check.refuses("a place more, twice", Check.STATE, State::full, full -> {
            Check.fails("once", Check.STATE, () -> full.place(100000, 100000));
            full.place(0, 0);
        });
    }

    /** "x or y is not 0 .. 100000": what is. */
    private static void placeAtItsBounds() {
        NailRules rules = new NailRules();
        Check.same("0, 0", rules.place(0, 0), 1);
        Check.same("0, 100000", rules.place(0, 100000), 2);
        Check.same("100000, 0", rules.place(100000, 0), 3);
        Check.same("100000, 100000", rules.place(100000, 100000), 4);
    }

    /** "x or y is not 0 .. 100000": named before "there are 32". */
    private static void placeRefuses() {
        for (int bad : new int[] {-1, 100001, FAR[0], FAR[1]}) {
            Check.refuses("x " + bad, Check.ARGUMENT, rules -> rules.place(bad, 0));
            Check.refuses("y " + bad, Check.ARGUMENT, rules -> rules.place(0, bad));
            Check.refuses("x " + bad + " without room", Check.ARGUMENT, State::full, rules -> rules.place(bad, 0));
            Check.refuses("y " + bad + " without room", Check.ARGUMENT, State::full, rules -> rules.place(0, bad));
        }
    }

    private static void clear() {
        clearLeavesNoPlaces();
        clearOfNone();
        clearLeavesTheRest();
    }

    /** "There are no PLACES". */
    private static void clearLeavesNoPlaces() {
        NailRules rules = new NailRules();
        rules.place(0, 0);
        rules.place(0, 0);
        Check.same("too near", rules.keeps(0, 10, 10), 1);
        rules.clear();
        Check.same("none", rules.keeps(0, 10, 10), 0);
        Check.same("from the start", rules.place(5, 5), 1);
        Check.same("one that keeps", rules.keeps(0, 10, 10), 0);
        NailRules full = State.full();
        full.clear();
        for (int i = 1; i <= 32; i++) {
            Check.same("place " + i + " again", full.place(50, 50), i);
        }
        Check.fails("place 33 again", Check.STATE, () -> full.place(50, 50));
    }

    private static void clearOfNone() {
        Check.leavesAll("clear of none", NailRules::new, NailRules::clear);
        NailRules rules = State.full();
        rules.clear();
        rules.clear();
        Check.same("from the start", rules.place(5, 5), 1);
    }

    private static void clearLeavesTheRest() {
        NailRules rules = State.busy();
        NailRules twin = State.busy();
        rules.clear();
        Check.same("place", rules.place(100, 100), 1);
        Check.same("place", rules.place(600, 300), 2);
        Check.same("all but places", State.seen(rules), State.seen(twin));
    }

    private static void keeps() {
        keepsWithoutPlaces();
        keepsFromEachSide();
        keepsBeyondThePlate();
        keepsTellsTheFirstNearASide();
        keepsPairsApart();
        keepsTellsTheFirstPair();
        keepsTellsSidesFirst();
        keepsTheLastPair();
        keepsByEachKindsSpaces();
        keepsTheLargest();
        keepsRefuses();
    }

    private static void keepsWithoutPlaces() {
        NailRules rules = Check.with("n size 9999;n end 9999;n edge 9999;n side 9999");
        Check.same("the smallest plate", rules.keeps(0, 1, 1), 0);
        Check.same("the largest plate", rules.keeps(0, 100000, 100000), 0);
    }

    /** "each is EDGE, END from its sides at least". */
    private static void keepsFromEachSide() {
        int[][] wrong = {{49, 100}, {451, 100}, {100, 29}, {100, 171}};
        int[][] right = {{50, 100}, {450, 100}, {100, 30}, {100, 170}};
        for (int i = 0; i < 4; i++) {
            NailRules rules = Check.with(SPACES);
            rules.place(right[i][0], right[i][1]);
            Check.same("right " + i, rules.keeps(0, 500, 200), 0);
            rules.place(wrong[i][0], wrong[i][1]);
            Check.same("wrong " + i, rules.keeps(0, 500, 200), 2);
        }
        NailRules middle = Check.with(SPACES);
        middle.place(50, 30);
        Check.same("from all sides", middle.keeps(0, 100, 60), 0);
        Check.same("w 1 less", middle.keeps(0, 99, 60), 1);
        Check.same("h 1 less", middle.keeps(0, 100, 59), 1);
    }

    private static void keepsBeyondThePlate() {
        NailRules rules = new NailRules();
        rules.place(99999, 1);
        Check.same("on the largest", rules.keeps(0, 100000, 2), 0);
        Check.same("on its end", rules.keeps(0, 99999, 2), 1);
        Check.same("far beyond", rules.keeps(0, 1, 2), 1);
        Check.same("on its edge", rules.keeps(0, 100000, 1), 1);
    }

    /** "1 + the first place that is too near to a side". */
    private static void keepsTellsTheFirstNearASide() {
        NailRules rules = Check.with(SPACES);
        for (int i = 0; i < 32; i++) {
            rules.place(100 + i, 100 + i);
        }
        Check.same("the first of all", rules.keeps(0, 149, 100000), 1);
        Check.same("the second", rules.keeps(0, 150, 100000), 2);
        Check.same("the last", rules.keeps(0, 180, 100000), 32);
        Check.same("the first near an edge", rules.keeps(0, 100000, 129), 1);
        Check.same("the last near an edge", rules.keeps(0, 100000, 160), 32);
        Check.same("one near an end before one near an edge", rules.keeps(0, 170, 160), 22);
        Check.same("one near an edge before one near an end", rules.keeps(0, 180, 140), 12);
    }

    /** "each two of them are SIDE * SIZE apart at least (by squares)". */
    private static void keepsPairsApart() {
        int[][] apart = {{140, 100}, {60, 100}, {100, 140}, {100, 60}, {124, 132}, {132, 124}, {76, 68}};
        int[][] near = {{139, 100}, {61, 100}, {100, 139}, {100, 61}, {123, 132}, {132, 123}, {76, 69}, {100, 100}};
        for (int[] second : apart) {
            NailRules rules = Check.with(SPACES);
            rules.place(100, 100);
            rules.place(second[0], second[1]);
            Check.same("just apart " + second[0] + ", " + second[1], rules.keeps(0, 500, 200), 0);
        }
        for (int[] second : near) {
            NailRules rules = Check.with(SPACES);
            rules.place(100, 100);
            rules.place(second[0], second[1]);
            Check.same("too near " + second[0] + ", " + second[1], rules.keeps(0, 500, 200), 101);
        }
    }

    /** "the first pair (a below b, by a, then b)". */
    private static void keepsTellsTheFirstPair() {
        NailRules rules = Check.with(SPACES);
        rules.place(100, 100);
        rules.place(140, 100);
        rules.place(100, 60);
        rules.place(164, 132);
        rules.place(176, 96);
        Check.same("too near to two, the first pair", rules.keeps(0, 500, 200), 100 + 32 + 4);
        rules.place(101, 61);
        Check.same("a pair of an earlier one", rules.keeps(0, 500, 200), 100 + 5);
        NailRules ordered = Check.with("n size 1;n side 10");
        int[] xs = {100, 200, 300, 305, 205};
        for (int x : xs) {
            ordered.place(x, 50);
        }
        Check.same("by a, not by b", ordered.keeps(0, 500, 500), 100 + 32 + 4);
    }

    /** "(sides first)". */
    private static void keepsTellsSidesFirst() {
        NailRules rules = Check.with(SPACES);
        rules.place(200, 100);
        rules.place(200, 100);
        Check.same("a pair", rules.keeps(0, 500, 200), 101);
        rules.place(600, 100);
        rules.place(0, 0);
        Check.same("sides before pairs", rules.keeps(0, 500, 200), 3);
        Check.same("another kind", rules.keeps(1, 700, 200), 4);
    }

    /** "100 + 32 * a + b": the last pair of 32. */
    private static void keepsTheLastPair() {
        NailRules rules = new NailRules();
        for (int i = 0; i < 30; i++) {
            rules.place(100 + 10 * i, 100);
        }
        rules.place(50, 50);
        rules.place(50, 50);
        Check.same("the last pair", rules.keeps(3, 1000, 1000), 100 + 32 * 30 + 31);
        rules.clear();
        for (int i = 0; i < 31; i++) {
            rules.place(100 + 10 * i, 100);
        }
        rules.place(100, 100);
        Check.same("the first and the last", rules.keeps(3, 1000, 1000), 100 + 31);
    }

    private static void keepsByEachKindsSpaces() {
        NailRules rules = Check.with("n end 5;s edge 5;b side 5;d size 5");
        rules.place(4, 4);
        rules.place(8, 8);
        Check.same("END of nails", rules.keeps(0, 100, 100), 1);
        Check.same("EDGE of screws", rules.keeps(1, 100, 100), 1);
        Check.same("SIDE of bolts", rules.keeps(2, 100, 100), 0);
        Check.same("SIZE of dowels", rules.keeps(3, 100, 100), 1);
        rules.place(10, 11);
        Check.same("SIDE of bolts, near", rules.keeps(2, 100, 100), 100 + 32 + 2);
        Check.reads(rules, "b side 1;b row 9", 2);
        Check.same("ROW is not asked", rules.keeps(2, 100, 100), 0);
    }

    /** "w or h is not 1 .. 100000": what is, with the largest spaces. */
    private static void keepsTheLargest() {
        NailRules rules = Check.with("n size 9999;n side 9999;s size 9999;s end 9999;b side 9999;b size 14;d size 9999;d edge 9999");
        rules.place(10000, 10000);
        rules.place(90000, 90000);
        Check.same("a square beyond an int", rules.keeps(0, 100000, 100000), 101);
        Check.same("an end beyond the plate", rules.keeps(1, 100000, 100000), 1);
        Check.same("an edge beyond the plate", rules.keeps(3, 100000, 100000), 1);
        rules.clear();
        rules.place(1000, 1000);
        rules.place(99000, 99000);
        // 98000 twice is 138592 apart, 139986 are asked: near to one another as squares beyond an int.
        Check.same("near by a little", rules.keeps(2, 100000, 100000), 101);
        Check.reads(rules, "b size 13;b side 9998", 2);
        Check.same("apart by a little more", rules.keeps(2, 100000, 100000), 0);
    }

    /** "IndexOutOfBoundsException", named first; "w or h is not 1 .. 100000". */
    private static void keepsRefuses() {
        for (int bad : new int[] {-1, 4, FAR[0], FAR[1]}) {
            Check.refuses("kind " + bad, Check.INDEX, rules -> rules.keeps(bad, 1, 1));
            Check.refuses("kind before w, h, " + bad, Check.INDEX, rules -> rules.keeps(bad, 0, 0));
        }
        for (int bad : new int[] {0, 100001, -1, FAR[0], FAR[1]}) {
            Check.refuses("w " + bad, Check.ARGUMENT, rules -> rules.keeps(0, bad, 1));
            Check.refuses("h " + bad, Check.ARGUMENT, rules -> rules.keeps(0, 1, bad));
            Check.refuses("w " + bad + ", no places", Check.ARGUMENT, NailRules::new, rules -> rules.keeps(0, bad, 1));
        }
        Check.leavesAll("keeps", State::full, rules -> rules.keeps(0, 100, 100));
    }
}
