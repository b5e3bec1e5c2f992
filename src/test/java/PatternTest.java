/** Promises 9 to 13: pattern, at, place, clear, keeps. */
public final class PatternTest {
    private static final String SPACES = "n size 10;n end 5;n edge 3;n side 4;n row 6";

    public static void main(String[] args) {
        patternGoesRowByRow();
        patternAtItsEdges();
        patternOfEachKind();
        patternStays();
        patternOfTheLargest();
        patternRefuses();
        atRefuses();
        placeCounts();
        placeRefuses();
        clearLeavesNoPlaces();
        keepsFromSides();
        keepsPairs();
        keepsTheLargest();
        keepsRefuses();
        Check.end();
    }

    private static void patternGoesRowByRow() {
        NailRules rules = Check.with(SPACES);
        Check.yes("33", rules.pattern(0, 500, 200, 33));
        for (int k = 0; k < 33; k++) {
            Check.same("x of " + k, rules.at(k, 0), 50 + k % 11 * 40);
            Check.same("y of " + k, rules.at(k, 1), 30 + k / 11 * 60);
        }
        Check.yes("5", rules.pattern(0, 500, 200, 5));
        Check.same("the fifth", rules.at(4, 0), 210);
        Check.fails("the sixth", Check.INDEX, () -> rules.at(5, 0));
    }

    private static void patternAtItsEdges() {
        NailRules rules = Check.with(SPACES);
        Check.yes("just one", rules.pattern(0, 100, 60, 1));
        Check.no("no second", rules.pattern(0, 100, 60, 2));
        Check.no("not wide enough", rules.pattern(0, 99, 60, 1));
        Check.no("not high enough", rules.pattern(0, 100, 59, 1));
        Check.no("neither is enough, twice below 0", rules.pattern(0, 1, 1, 1));
        Check.no("a second column not yet", rules.pattern(0, 139, 60, 2));
        Check.yes("a second column", rules.pattern(0, 140, 60, 2));
        Check.no("a second row not yet", rules.pattern(0, 100, 119, 2));
        Check.yes("a second row", rules.pattern(0, 100, 120, 2));
        Check.same("x in the second row", rules.at(1, 0), 50);
        Check.same("y in the second row", rules.at(1, 1), 90);
        // Both margins are more than 0 below: their product must not count as places.
        Check.no("a long way below 0 twice", Check.with("n size 100;n end 9;n edge 9").pattern(0, 10, 10, 4));
    }

    private static void patternOfEachKind() {
        NailRules rules = Check.with("s side 2;b end 3;d row 5;d edge 2");
        Check.yes("screws", rules.pattern(1, 6, 3, 4));
        Check.same("screw 2", rules.at(2, 0), 5);
        Check.same("screw 3", rules.at(3, 1), 2);
        Check.yes("bolts", rules.pattern(2, 7, 3, 3));
        Check.same("bolt 1", rules.at(1, 0), 4);
        Check.yes("dowels", rules.pattern(3, 2, 9, 2));
        Check.same("dowel 0", rules.at(0, 1), 2);
        Check.same("dowel 1", rules.at(1, 1), 7);
    }

    private static void patternStays() {
        NailRules rules = Check.with(SPACES);
        Check.yes("two", rules.pattern(0, 140, 60, 2));
        Check.no("none", rules.pattern(0, 140, 60, 3));
        Check.fails("wrong n", Check.ARGUMENT, () -> rules.pattern(0, 500, 500, 101));
        Check.same("the one before", rules.at(1, 0), 90);
        Check.fails("still two", Check.INDEX, () -> rules.at(2, 0));
        Check.reads(rules, "n size 20;n end 1", 2);
        rules.clear();
        Check.same("new rules leave it", rules.at(1, 0), 90);
        Check.same("new rules leave y", rules.at(1, 1), 30);
        Check.yes("by the new rules", rules.pattern(0, 200, 120, 2));
        Check.same("a new one", rules.at(1, 0), 100);
    }

    private static void patternOfTheLargest() {
        NailRules rules = new NailRules();
        Check.yes("more than an int's worth of room", rules.pattern(0, 100000, 100000, 100));
        Check.same("the last", rules.at(99, 0), 100);
        Check.yes("one column", rules.pattern(0, 2, 100000, 100));
        Check.same("the last below", rules.at(99, 1), 100);
        NailRules wide = Check.with("n size 9999;n end 9999;s size 9999;s side 9999");
        Check.no("far too wide", wide.pattern(0, 100000, 100000, 1));
        Check.yes("one column of ten", wide.pattern(1, 100000, 100000, 9));
        Check.same("no second column", wide.at(8, 0), 9999);
        Check.same("ninth row", wide.at(8, 1), 9 * 9999);
        Check.no("no tenth row", wide.pattern(1, 100000, 100000, 10));
    }

    private static void patternRefuses() {
        NailRules rules = new NailRules();
        Check.fails("kind -1", Check.INDEX, () -> rules.pattern(-1, 0, 0, 0));
        Check.fails("kind 4", Check.INDEX, () -> rules.pattern(4, 10, 10, 1));
        Check.fails("w 0", Check.ARGUMENT, () -> rules.pattern(0, 0, 10, 1));
        Check.fails("w 100001", Check.ARGUMENT, () -> rules.pattern(0, 100001, 10, 1));
        Check.fails("h 0", Check.ARGUMENT, () -> rules.pattern(0, 10, 0, 1));
        Check.fails("h 100001", Check.ARGUMENT, () -> rules.pattern(0, 10, 100001, 1));
        Check.fails("n 0", Check.ARGUMENT, () -> rules.pattern(0, 10, 10, 0));
        Check.fails("n 101", Check.ARGUMENT, () -> rules.pattern(0, 100, 100, 101));
        Check.fails("still none", Check.STATE, () -> rules.at(0, 0));
        Check.no("none fits", rules.pattern(0, 1, 1, 1));
        Check.fails("and still none", Check.STATE, () -> rules.at(0, 0));
    }

    private static void atRefuses() {
        NailRules rules = new NailRules();
        Check.fails("none is first", Check.STATE, () -> rules.at(-1, 2));
        Check.yes("three", rules.pattern(0, 10, 10, 3));
        Check.fails("k -1", Check.INDEX, () -> rules.at(-1, 0));
        Check.fails("k 3", Check.INDEX, () -> rules.at(3, 1));
        Check.fails("k far", Check.INDEX, () -> rules.at(Integer.MAX_VALUE, 0));
        Check.fails("axis -1", Check.INDEX, () -> rules.at(0, -1));
        Check.fails("axis 2", Check.INDEX, () -> rules.at(0, 2));
    }

    private static void placeCounts() {
        NailRules rules = new NailRules();
        for (int i = 1; i <= 32; i++) {
            Check.same("place " + i, rules.place(i * 10, i * 10), i);
        }
        Check.fails("place 33", Check.STATE, () -> rules.place(1, 1));
        Check.fails("an argument before the room", Check.ARGUMENT, () -> rules.place(-1, 1));
        Check.same("all 32 are as before", rules.keeps(0, 330, 330), 0);
        Check.same("the last one counts", rules.keeps(0, 320, 330), 32);
    }

    private static void placeRefuses() {
        NailRules rules = new NailRules();
        Check.fails("x -1", Check.ARGUMENT, () -> rules.place(-1, 0));
        Check.fails("x 100001", Check.ARGUMENT, () -> rules.place(100001, 0));
        Check.fails("y -1", Check.ARGUMENT, () -> rules.place(0, -1));
        Check.fails("y 100001", Check.ARGUMENT, () -> rules.place(0, 100001));
        Check.same("none was taken", rules.place(0, 100000), 1);
        Check.same("a second one", rules.place(100000, 0), 2);
    }

    private static void clearLeavesNoPlaces() {
        NailRules rules = new NailRules();
        rules.place(0, 0);
        rules.place(0, 0);
        Check.same("too near", rules.keeps(0, 10, 10), 1);
        rules.clear();
        Check.same("none", rules.keeps(0, 10, 10), 0);
        Check.same("from the start", rules.place(5, 5), 1);
        Check.same("one that keeps", rules.keeps(0, 10, 10), 0);
        for (int i = 2; i <= 32; i++) {
            rules.place(5, 5);
        }
        rules.clear();
        rules.clear();
        Check.same("from the start again", rules.place(5, 5), 1);
    }

    private static void keepsFromSides() {
        int[][] wrong = {{49, 100}, {451, 100}, {100, 29}, {100, 171}};
        int[][] right = {{50, 100}, {450, 100}, {100, 30}, {100, 170}};
        for (int i = 0; i < 4; i++) {
            NailRules rules = Check.with(SPACES);
            rules.place(right[i][0], right[i][1]);
            Check.same("right " + i, rules.keeps(0, 500, 200), 0);
            rules.place(wrong[i][0], wrong[i][1]);
            Check.same("wrong " + i, rules.keeps(0, 500, 200), 2);
        }
        NailRules rules = Check.with(SPACES);
        rules.place(200, 100);
        rules.place(200, 100);
        rules.place(600, 100);
        rules.place(0, 0);
        Check.same("sides before pairs, beyond the plate", rules.keeps(0, 500, 200), 3);
        Check.same("another kind", rules.keeps(1, 700, 200), 4);
    }

    private static void keepsPairs() {
        NailRules rules = Check.with(SPACES);
        rules.place(100, 100);
        rules.place(140, 100);
        Check.same("just apart along x", rules.keeps(0, 500, 200), 0);
        rules.place(100, 60);
        Check.same("just apart along y, by SIDE and not by ROW", rules.keeps(0, 500, 200), 0);
        rules.place(164, 132);
        Check.same("just apart across", rules.keeps(0, 500, 200), 0);
        rules.place(176, 96);
        Check.same("too near to two, the first pair", rules.keeps(0, 500, 200), 100 + 32 + 4);
        rules.place(101, 61);
        Check.same("a pair of an earlier one", rules.keeps(0, 500, 200), 100 + 5);
        Check.same("another kind's space", rules.keeps(1, 500, 200), 0);
        NailRules ordered = Check.with("n size 1;n side 10");
        int[] xs = {100, 200, 300, 305, 205};
        for (int x : xs) {
            ordered.place(x, 50);
        }
        Check.same("by a, not by b", ordered.keeps(0, 500, 500), 100 + 32 + 4);
    }

    private static void keepsTheLargest() {
        NailRules rules = Check.with("n size 9999;n side 9999;s size 9999;s end 9999;b side 9999;b size 14");
        rules.place(10000, 10000);
        rules.place(90000, 90000);
        Check.same("a square beyond an int", rules.keeps(0, 100000, 100000), 101);
        Check.same("an end beyond the plate", rules.keeps(1, 100000, 100000), 1);
        rules.clear();
        rules.place(1000, 1000);
        rules.place(99000, 99000);
        // 98000 twice is 138592 apart, 139986 are asked: near to one another as squares beyond an int.
        Check.same("near by a little", rules.keeps(2, 100000, 100000), 101);
        Check.same("far apart", rules.keeps(3, 100000, 100000), 0);
        rules.clear();
        for (int i = 0; i < 30; i++) {
            rules.place(100 + 10 * i, 100);
        }
        rules.place(50, 50);
        rules.place(50, 50);
        Check.same("the last pair", rules.keeps(3, 1000, 1000), 100 + 32 * 30 + 31);
    }

    private static void keepsRefuses() {
        NailRules rules = new NailRules();
        Check.fails("kind -1", Check.INDEX, () -> rules.keeps(-1, 0, 0));
        Check.fails("kind 4", Check.INDEX, () -> rules.keeps(4, 1, 1));
        Check.fails("w 0", Check.ARGUMENT, () -> rules.keeps(0, 0, 1));
        Check.fails("w 100001", Check.ARGUMENT, () -> rules.keeps(0, 100001, 1));
        Check.fails("h 0", Check.ARGUMENT, () -> rules.keeps(0, 1, 0));
        Check.fails("h 100001", Check.ARGUMENT, () -> rules.keeps(0, 1, 100001));
    }
}
