/** Promises 5 to 8: set, holds, together, count. */
public final class StrengthTest {
    private static final long MOST = 1000000000000L;

    public static void main(String[] args) {
        setTakesWetAndLess();
        setRefuses();
        holdsByTheLeastFormula();
        holdsCutsOffTwice();
        holdsTheMost();
        holdsRefuses();
        togetherLosesPercents();
        togetherRefuses();
        countFindsTheLeast();
        countTriesUpToAHundred();
        countRefuses();
        Check.end();
    }

    private static void setTakesWetAndLess() {
        NailRules rules = Check.with("n size 10;n force 3");
        rules.set(0, 1);
        Check.same("WET 1", rules.holds(0, 50, 60, 0, 0), 12);
        rules.set(0, 100);
        Check.same("WET 100", rules.holds(0, 50, 60, 0, 0), 1200);
        rules.set(0, 70);
        Check.same("WET 70", rules.holds(0, 50, 60, 0, 0), 840);
        Check.same("WET leaves LESS", rules.together(3, 100), 288);
        rules.set(1, 0);
        Check.same("LESS 0", rules.together(3, 100), 300);
        rules.set(1, 100);
        Check.same("LESS 100", rules.together(3, 100), 150);
        Check.same("LESS leaves WET", rules.holds(0, 50, 60, 0, 0), 840);
    }

    private static void setRefuses() {
        NailRules rules = Check.with("n size 10");
        rules.set(0, 50);
        rules.set(1, 5);
        Check.fails("set(-1, 50)", Check.INDEX, () -> rules.set(-1, 50));
        Check.fails("set(2, 50)", Check.INDEX, () -> rules.set(2, 50));
        Check.fails("set(2, -1)", Check.INDEX, () -> rules.set(2, -1));
        Check.fails("set(0, 0)", Check.ARGUMENT, () -> rules.set(0, 0));
        Check.fails("set(0, 101)", Check.ARGUMENT, () -> rules.set(0, 101));
        Check.fails("set(0, -1)", Check.ARGUMENT, () -> rules.set(0, -1));
        Check.fails("set(1, -1)", Check.ARGUMENT, () -> rules.set(1, -1));
        Check.fails("set(1, 101)", Check.ARGUMENT, () -> rules.set(1, 101));
        Check.same("WET is as before", rules.holds(0, 40, 40, 0, 0), 200);
        Check.same("LESS is as before", rules.together(2, 100), 190);
    }

    private static void holdsByTheLeastFormula() {
        NailRules rules = Check.with("s size 10;s force 3");
        Check.same("by A", rules.holds(1, 20, 30, 0, 0), 600);
        Check.same("A is formula 0", rules.holds(1, 20, 30, 0, 1), 0);
        Check.same("by B", rules.holds(1, 30, 20, 0, 0), 600);
        Check.same("B is formula 1", rules.holds(1, 30, 20, 0, 1), 1);
        Check.same("by SIZE", rules.holds(1, 50, 60, 0, 0), 1200);
        Check.same("SIZE is formula 3", rules.holds(1, 50, 60, 0, 1), 3);
        Check.same("A, B and both alike", rules.holds(1, 20, 20, 0, 1), 0);
        Check.same("all alike", rules.holds(1, 40, 40, 0, 1), 0);
        Check.same("B and SIZE alike", rules.holds(1, 41, 40, 0, 1), 1);
        Check.same("the angle leaves the formula", rules.holds(1, 30, 20, 90, 1), 1);
        NailRules ones = new NailRules();
        Check.same("both cut off, as much as A", ones.holds(0, 1, 2, 0, 1), 0);
        Check.same("both cut off, as much as B", ones.holds(0, 2, 1, 0, 1), 1);
        Check.same("kinds are apart", rules.holds(0, 20, 30, 0, 0), 4);
    }

    private static void holdsCutsOffTwice() {
        NailRules rules = Check.with("b size 7;b force 1");
        Check.same("angle 90", rules.holds(2, 3, 9, 90, 0), 11);
        Check.same("angle 45", rules.holds(2, 3, 9, 45, 0), 16);
        Check.same("angle 1", rules.holds(2, 3, 9, 1, 0), 20);
        rules.set(0, 99);
        // 21 * 199 / 200 is 20 and 20 * 99 / 100 is 19; cut off once it would be 20.
        Check.same("angle 1, WET 99", rules.holds(2, 3, 9, 1, 0), 19);
        rules.set(0, 1);
        Check.same("nothing is left", rules.holds(2, 3, 9, 0, 0), 0);
    }

    private static void holdsTheMost() {
        NailRules rules = Check.with("d size 9999;d force 9999");
        Check.same("most", rules.holds(3, 1000, 1000, 0, 0), 9999L * 9999L * 1000L);
        Check.same("most at 90", rules.holds(3, 1000, 1000, 90, 0), 9999L * 9999L * 550L);
        NailRules thin = Check.with("d size 100;d force 9999");
        Check.same("SIZE is less", thin.holds(3, 1000, 1000, 0, 0), 9999L * 40000L);
    }

    private static void holdsRefuses() {
        NailRules rules = new NailRules();
        Check.fails("kind -1", Check.INDEX, () -> rules.holds(-1, 1, 1, 0, 0));
        Check.fails("kind 4", Check.INDEX, () -> rules.holds(4, 1, 1, 0, 0));
        Check.fails("part -1", Check.INDEX, () -> rules.holds(0, 1, 1, 0, -1));
        Check.fails("part 2", Check.INDEX, () -> rules.holds(0, 1, 1, 0, 2));
        Check.fails("part before a", Check.INDEX, () -> rules.holds(0, 0, 0, 91, 2));
        Check.fails("a 0", Check.ARGUMENT, () -> rules.holds(0, 0, 1, 0, 0));
        Check.fails("a 1001", Check.ARGUMENT, () -> rules.holds(0, 1001, 1, 0, 0));
        Check.fails("b 0", Check.ARGUMENT, () -> rules.holds(0, 1, 0, 0, 1));
        Check.fails("b 1001", Check.ARGUMENT, () -> rules.holds(0, 1, 1001, 0, 1));
        Check.fails("angle -1", Check.ARGUMENT, () -> rules.holds(0, 1, 1, -1, 0));
        Check.fails("angle 91", Check.ARGUMENT, () -> rules.holds(0, 1, 1, 91, 0));
    }

    private static void togetherLosesPercents() {
        NailRules rules = new NailRules();
        Check.same("none", rules.together(0, MOST), 0);
        Check.same("one", rules.together(1, 777), 777);
        Check.same("two", rules.together(2, 777), 1522);
        Check.same("25", rules.together(25, 100), 1300);
        Check.same("26 by 50 percent", rules.together(26, 100), 1300);
        Check.same("27 by 50 percent still", rules.together(27, 100), 1350);
        Check.same("each 0", rules.together(1000, 0), 0);
        Check.same("the most", rules.together(1000, MOST), 500 * MOST);
        rules.set(1, 0);
        Check.same("the most, LESS 0", rules.together(1000, MOST), 1000 * MOST);
        rules.set(1, 100);
        Check.same("none, LESS 100", rules.together(0, 5), 0);
        Check.same("one, LESS 100", rules.together(1, 5), 5);
        Check.same("three, LESS 100, cut off", rules.together(3, 5), 7);
    }

    private static void togetherRefuses() {
        NailRules rules = new NailRules();
        Check.fails("n -1", Check.ARGUMENT, () -> rules.together(-1, 1));
        Check.fails("n 1001", Check.ARGUMENT, () -> rules.together(1001, 1));
        Check.fails("one -1", Check.ARGUMENT, () -> rules.together(1, -1));
        Check.fails("one too much", Check.ARGUMENT, () -> rules.together(1, MOST + 1));
        Check.fails("one far too much", Check.ARGUMENT, () -> rules.together(1, Long.MAX_VALUE));
    }

    private static void countFindsTheLeast() {
        NailRules rules = new NailRules();
        Check.same("no load", rules.count(0, 0), 1);
        Check.same("no load, one", rules.count(0, 5), 1);
        Check.same("just one", rules.count(100, 100), 1);
        Check.same("more than one", rules.count(101, 100), 2);
        Check.same("just two", rules.count(196, 100), 2);
        Check.same("more than two", rules.count(197, 100), 3);
        rules.set(1, 100);
        Check.same("two hold no more than one", rules.count(101, 100), 3);
        rules.set(1, 20);
        Check.same("just three", rules.count(180, 100), 3);
        rules.set(1, 25);
        // Two hold 150, and three no more than that.
        Check.same("two as much as three", rules.count(150, 100), 2);
        Check.same("more than three", rules.count(151, 100), 4);
    }

    private static void countTriesUpToAHundred() {
        NailRules rules = new NailRules();
        Check.same("just a hundred", rules.count(5000, 100), 100);
        Check.same("more than a hundred", rules.count(5001, 100), NailRules.NONE);
        Check.same("nothing holds", rules.count(1, 0), NailRules.NONE);
        Check.same("the most", rules.count(MOST, MOST), 1);
        rules.set(1, 0);
        Check.same("a hundred without loss", rules.count(10000, 100), 100);
        Check.same("none without loss", rules.count(10001, 100), NailRules.NONE);
        rules.set(1, 1);
        // At LESS 1 fifty hold 2550, 51 as much, and all above hold half of each.
        Check.same("fifty", rules.count(2550, 100), 50);
        Check.same("more than fifty-one", rules.count(2551, 100), 52);
    }

    private static void countRefuses() {
        NailRules rules = new NailRules();
        Check.fails("load -1", Check.ARGUMENT, () -> rules.count(-1, 1));
        Check.fails("load too much", Check.ARGUMENT, () -> rules.count(MOST + 1, 1));
        Check.fails("one -1", Check.ARGUMENT, () -> rules.count(1, -1));
        Check.fails("one too much", Check.ARGUMENT, () -> rules.count(1, MOST + 1));
        Check.fails("load far too little", Check.ARGUMENT, () -> rules.count(Long.MIN_VALUE, 1));
    }
}
