/**
 * Promises 5 to 8: set, holds, together, count. Above a test stand the document's words whose edge it looks at:
 * the last input that they allow, and the first that they don't.
 */
public final class StrengthTest {
    private static final long MOST = 1000000000000L;
    private static final int[] FAR = {Integer.MIN_VALUE, Integer.MAX_VALUE};

    public static void main(String[] args) {
        set();
        holds();
        together();
        count();
        Check.end();
    }

    private static void set() {
        setTakesWet();
        setTakesLess();
        setRefusesWhat();
        setRefusesWet();
        setRefusesLess();
    }

    /** "WET is not 1 .. 100": what is. */
    private static void setTakesWet() {
        NailRules rules = Check.with("n size 10;n force 3");
        rules.set(0, 1);
        Check.same("WET 1", rules.holds(0, 50, 60, 0, 0), 12);
        rules.set(0, 70);
        Check.same("WET 70", rules.holds(0, 50, 60, 0, 0), 840);
        rules.set(0, 100);
        Check.same("WET 100", rules.holds(0, 50, 60, 0, 0), 1200);
        Check.same("WET leaves LESS", rules.together(3, 100), 288);
    }

    /** "LESS not 0 .. 100": what is. */
    private static void setTakesLess() {
        NailRules rules = Check.with("n size 10;n force 3");
        rules.set(1, 0);
        Check.same("LESS 0", rules.together(3, 100), 300);
        rules.set(1, 1);
        Check.same("LESS 1", rules.together(3, 100), 294);
        rules.set(1, 100);
        Check.same("LESS 100", rules.together(3, 100), 150);
        Check.same("LESS leaves WET", rules.holds(0, 50, 60, 0, 0), 1200);
    }

    /** "IndexOutOfBoundsException", named first. */
    private static void setRefusesWhat() {
        Check.refuses("set(-1, 50)", Check.INDEX, rules -> rules.set(-1, 50));
        Check.refuses("set(2, 50)", Check.INDEX, rules -> rules.set(2, 50));
        Check.refuses("set(-1, 101)", Check.INDEX, rules -> rules.set(-1, 101));
        Check.refuses("set(2, -1)", Check.INDEX, rules -> rules.set(2, -1));
        for (int far : FAR) {
            Check.refuses("set(" + far + ", 50)", Check.INDEX, rules -> rules.set(far, 50));
        }
    }

    /** "WET is not 1 .. 100". */
    private static void setRefusesWet() {
        for (int bad : new int[] {0, 101, -1, FAR[0], FAR[1]}) {
            Check.refuses("set(0, " + bad + ")", Check.ARGUMENT, rules -> rules.set(0, bad));
        }
    }

    /** "LESS not 0 .. 100". */
    private static void setRefusesLess() {
        for (int bad : new int[] {-1, 101, FAR[0], FAR[1]}) {
            Check.refuses("set(1, " + bad + ")", Check.ARGUMENT, rules -> rules.set(1, bad));
        }
    }

    private static void holds() {
        holdsByTheLeastFormula();
        holdsByTheFirstOfSeveral();
        holdsByHalfOfBothCutOff();
        holdsLessAtAnAngle();
        holdsLessIfWet();
        holdsCutsOffTwice();
        holdsAtItsBounds();
        holdsByEachKindsNumbers();
        holdsRefusesKindAndPart();
        holdsRefusesNumbers();
        holdsLeavesAll();
    }

    /** "the least .. of force * A * SIZE, force * B * SIZE, .., force * SIZE * SIZE * 4". */
    private static void holdsByTheLeastFormula() {
        NailRules rules = Check.with("s size 10;s force 3");
        Check.same("by A", rules.holds(1, 20, 30, 0, 0), 600);
        Check.same("A is formula 0", rules.holds(1, 20, 30, 0, 1), 0);
        Check.same("by B", rules.holds(1, 30, 20, 0, 0), 600);
        Check.same("B is formula 1", rules.holds(1, 30, 20, 0, 1), 1);
        Check.same("by SIZE", rules.holds(1, 50, 60, 0, 0), 1200);
        Check.same("SIZE is formula 3", rules.holds(1, 50, 60, 0, 1), 3);
        Check.same("A just below SIZE", rules.holds(1, 39, 60, 0, 1), 0);
        Check.same("A just above SIZE", rules.holds(1, 41, 60, 0, 1), 3);
        Check.same("B just below SIZE", rules.holds(1, 60, 39, 0, 1), 1);
        Check.same("B just above SIZE", rules.holds(1, 60, 41, 0, 1), 3);
        Check.same("the angle leaves the formula", rules.holds(1, 30, 20, 90, 1), 1);
        rules.set(0, 1);
        Check.same("WET leaves the formula", rules.holds(1, 50, 60, 90, 1), 3);
    }

    /** "the least (the first of several)". */
    private static void holdsByTheFirstOfSeveral() {
        NailRules rules = Check.with("s size 10;s force 3");
        Check.same("A, B and both alike", rules.holds(1, 20, 20, 0, 1), 0);
        Check.same("all alike", rules.holds(1, 40, 40, 0, 1), 0);
        Check.same("A and SIZE alike", rules.holds(1, 40, 41, 0, 1), 0);
        Check.same("B and SIZE alike", rules.holds(1, 41, 40, 0, 1), 1);
    }

    /** "force * (A + B) * SIZE / 2 (cut off)": at SIZE 1 as little as the less of both, but never the first. */
    private static void holdsByHalfOfBothCutOff() {
        NailRules rules = new NailRules();
        Check.same("both cut off, as much as A", rules.holds(0, 1, 2, 0, 1), 0);
        Check.same("both cut off, as much as B", rules.holds(0, 2, 1, 0, 1), 1);
        for (int a = 1; a <= 6; a++) {
            for (int b = 1; b <= 6; b++) {
                int least = Math.min(4, Math.min(a, b));
                Check.same("holds of " + a + ", " + b, rules.holds(0, a, b, 0, 0), least);
                Check.same("formula of " + a + ", " + b, rules.holds(0, a, b, 0, 1), least == a ? 0 : least == b ? 1 : 3);
            }
        }
    }

    /** "at an angle 0 .. 90 .. times (200 - angle), by 200 (cut off)". */
    private static void holdsLessAtAnAngle() {
        NailRules rules = Check.with("b size 7");
        Check.same("angle 0", rules.holds(2, 3, 9, 0, 0), 21);
        Check.same("angle 1", rules.holds(2, 3, 9, 1, 0), 20);
        Check.same("angle 45", rules.holds(2, 3, 9, 45, 0), 16);
        Check.same("angle 89", rules.holds(2, 3, 9, 89, 0), 11);
        Check.same("angle 90", rules.holds(2, 3, 9, 90, 0), 11);
        Check.same("just not cut off", Check.with("b size 20").holds(2, 10, 10, 90, 0), 110);
        Check.same("1 at an angle", new NailRules().holds(2, 1, 1, 1, 0), 0);
    }

    /** "times WET (percent, 100 at first), by 100 (cut off)". */
    private static void holdsLessIfWet() {
        NailRules rules = Check.with("b size 10;b force 10");
        rules.set(0, 99);
        Check.same("99 of 100 and 1 cut off", rules.holds(2, 1, 1, 0, 0), 99);
        Check.same("99 of 300", rules.holds(2, 3, 3, 0, 0), 297);
        rules.set(0, 1);
        Check.same("1 of 100", rules.holds(2, 1, 1, 0, 0), 1);
        Check.same("1 of 99 is cut off", rules.holds(2, 1, 1, 1, 0), 0);
    }

    private static void holdsCutsOffTwice() {
        NailRules rules = Check.with("b size 7");
        rules.set(0, 99);
        // 21 * 199 / 200 is 20 and 20 * 99 / 100 is 19; cut off once it would be 20.
        Check.same("angle 1, WET 99", rules.holds(2, 3, 9, 1, 0), 19);
    }

    /** "a or b is not 1 .. 1000": what is; and the most of all. */
    private static void holdsAtItsBounds() {
        NailRules rules = Check.with("d size 9999;d force 9999");
        Check.same("1, 1000", rules.holds(3, 1, 1000, 0, 0), 9999L * 9999L);
        Check.same("1000, 1", rules.holds(3, 1000, 1, 0, 0), 9999L * 9999L);
        Check.same("most", rules.holds(3, 1000, 1000, 0, 0), 9999L * 9999L * 1000L);
        Check.same("most at 90", rules.holds(3, 1000, 1000, 90, 0), 9999L * 9999L * 550L);
        NailRules thin = Check.with("d size 100;d force 9999");
        Check.same("SIZE is less", thin.holds(3, 1000, 1000, 0, 0), 9999L * 40000L);
    }

    private static void holdsByEachKindsNumbers() {
        NailRules rules = Check.with("n size 2;s size 3;b size 4;d size 5;n force 9;s force 8;b force 7;d force 6");
        Check.same("nail", rules.holds(0, 1, 2, 0, 0), 18);
        Check.same("screw", rules.holds(1, 1, 2, 0, 0), 24);
        Check.same("bolt", rules.holds(2, 1, 2, 0, 0), 28);
        Check.same("dowel", rules.holds(3, 1, 2, 0, 0), 30);
    }

    /** "IndexOutOfBoundsException: no such kind, part", named first. */
    private static void holdsRefusesKindAndPart() {
        for (int bad : new int[] {-1, 4, FAR[0], FAR[1]}) {
            Check.refuses("kind " + bad, Check.INDEX, rules -> rules.holds(bad, 1, 1, 0, 0));
            Check.refuses("kind before a, " + bad, Check.INDEX, rules -> rules.holds(bad, 0, 1, 0, 0));
        }
        for (int bad : new int[] {-1, 2, FAR[0], FAR[1]}) {
            Check.refuses("part " + bad, Check.INDEX, rules -> rules.holds(3, 1, 1, 0, bad));
            Check.refuses("part before a, b, angle, " + bad, Check.INDEX, rules -> rules.holds(0, 0, 0, 91, bad));
        }
    }

    /** "a or b is not 1 .. 1000, or angle not 0 .. 90". */
    private static void holdsRefusesNumbers() {
        for (int part = 0; part < 2; part++) {
            int asked = part;
            for (int bad : new int[] {0, 1001, -1, FAR[0], FAR[1]}) {
                Check.refuses("a " + bad, Check.ARGUMENT, rules -> rules.holds(0, bad, 1, 0, asked));
                Check.refuses("b " + bad, Check.ARGUMENT, rules -> rules.holds(0, 1, bad, 0, asked));
            }
            for (int bad : new int[] {-1, 91, 200, FAR[0], FAR[1]}) {
                Check.refuses("angle " + bad, Check.ARGUMENT, rules -> rules.holds(0, 1, 1, bad, asked));
            }
        }
    }

    private static void holdsLeavesAll() {
        Check.leavesAll("holds", State::busy, rules -> rules.holds(0, 5, 5, 5, 0));
    }

    private static void together() {
        togetherLosesPercents();
        togetherLosesHalfAtMost();
        togetherCutsOff();
        togetherOfNone();
        togetherAtItsBounds();
        togetherRefuses();
    }

    /** "n * (what one HOLDS) * (100 - LESS * (n - 1)) / 100". */
    private static void togetherLosesPercents() {
        NailRules rules = new NailRules();
        Check.same("one", rules.together(1, 777), 777);
        Check.same("two", rules.together(2, 100), 196);
        Check.same("three", rules.together(3, 100), 288);
        rules.set(1, 100);
        Check.same("one, LESS 100", rules.together(1, 5), 5);
    }

    /** "the percentage at least 50". */
    private static void togetherLosesHalfAtMost() {
        NailRules rules = new NailRules();
        Check.same("25 by 52 percent", rules.together(25, 100), 1300);
        Check.same("26 by 50 percent", rules.together(26, 100), 1300);
        Check.same("27 by 50 percent still", rules.together(27, 100), 1350);
        rules.set(1, 49);
        Check.same("two by 51 percent", rules.together(2, 100), 102);
        rules.set(1, 50);
        Check.same("two by 50 percent", rules.together(2, 100), 100);
        rules.set(1, 51);
        Check.same("two by 50 percent still", rules.together(2, 100), 100);
        rules.set(1, 100);
        Check.same("a thousand by 50 percent", rules.together(1000, 100), 50000);
    }

    /** "/ 100 (cut off)". */
    private static void togetherCutsOff() {
        NailRules rules = new NailRules();
        Check.same("1522.92", rules.together(2, 777), 1522);
        Check.same("1.96", rules.together(2, 1), 1);
        rules.set(1, 100);
        Check.same("7.5", rules.together(3, 5), 7);
        Check.same("1.5", rules.together(3, 1), 1);
    }

    /** "n is not 0 .. 1000": 0 is, and holds nothing, however much one holds and LESS takes. */
    private static void togetherOfNone() {
        NailRules rules = new NailRules();
        Check.same("none", rules.together(0, MOST), 0);
        Check.same("none that hold nothing", rules.together(0, 0), 0);
        rules.set(1, 100);
        Check.same("none, LESS 100", rules.together(0, MOST), 0);
    }

    /** "n is not 0 .. 1000, or one not 0 .. 10^12": what is. */
    private static void togetherAtItsBounds() {
        NailRules rules = new NailRules();
        Check.same("each 0", rules.together(1000, 0), 0);
        Check.same("one, the most", rules.together(1, MOST), MOST);
        Check.same("the most", rules.together(1000, MOST), 500 * MOST);
        rules.set(1, 0);
        Check.same("the most, LESS 0", rules.together(1000, MOST), 1000 * MOST);
    }

    /** "n is not 0 .. 1000, or one not 0 .. 10^12". */
    private static void togetherRefuses() {
        for (int bad : new int[] {-1, 1001, FAR[0], FAR[1]}) {
            Check.refuses("n " + bad, Check.ARGUMENT, rules -> rules.together(bad, 1));
            Check.refuses("n " + bad + " of nothing", Check.ARGUMENT, rules -> rules.together(bad, 0));
        }
        // The last ones are right numbers if they are cut to an int.
        for (long bad : new long[] {-1, MOST + 1, Long.MIN_VALUE, Long.MAX_VALUE, 1L << 62, -1L << 32}) {
            Check.refuses("one " + bad, Check.ARGUMENT, rules -> rules.together(1, bad));
            Check.refuses("none of " + bad, Check.ARGUMENT, rules -> rules.together(0, bad));
        }
    }

    private static void count() {
        countFindsTheLeast();
        countIsOneAtLeast();
        countIsAHundredAtMost();
        countWhereMoreHoldNoMore();
        countAtItsBounds();
        countRefuses();
    }

    /** "The least n .. that hold a load TOGETHER". */
    private static void countFindsTheLeast() {
        NailRules rules = new NailRules();
        Check.same("just one", rules.count(100, 100), 1);
        Check.same("more than one", rules.count(101, 100), 2);
        Check.same("just two", rules.count(196, 100), 2);
        Check.same("more than two", rules.count(197, 100), 3);
        // Two that hold 1 each hold 1.96, cut off.
        Check.same("cut off", rules.count(2, 1), 3);
    }

    /** "n (1 .. 100)": no load needs one too. */
    private static void countIsOneAtLeast() {
        NailRules rules = new NailRules();
        Check.same("no load", rules.count(0, 5), 1);
        Check.same("no load on what holds nothing", rules.count(0, 0), 1);
    }

    /** "n (1 .. 100) ..; NONE if none do". */
    private static void countIsAHundredAtMost() {
        NailRules rules = new NailRules();
        Check.same("more than 99", rules.count(4951, 100), 100);
        Check.same("just a hundred", rules.count(5000, 100), 100);
        Check.same("more than a hundred", rules.count(5001, 100), NailRules.NONE);
        Check.same("nothing holds", rules.count(1, 0), NailRules.NONE);
        rules.set(1, 0);
        Check.same("a hundred without loss", rules.count(10000, 100), 100);
        Check.same("none without loss", rules.count(10001, 100), NailRules.NONE);
        Check.leavesAll("count that finds none", State::busy, busy -> busy.count(MOST, 1));
    }

    private static void countWhereMoreHoldNoMore() {
        NailRules rules = new NailRules();
        rules.set(1, 100);
        Check.same("two hold no more than one", rules.count(101, 100), 3);
        rules.set(1, 20);
        Check.same("just three", rules.count(180, 100), 3);
        rules.set(1, 25);
        // Two hold 150, and three no more than that.
        Check.same("two as much as three", rules.count(150, 100), 2);
        Check.same("more than three", rules.count(151, 100), 4);
        rules.set(1, 1);
        // At LESS 1 fifty hold 2550, 51 as much, and all above hold half of each.
        Check.same("fifty", rules.count(2550, 100), 50);
        Check.same("more than fifty-one", rules.count(2551, 100), 52);
    }

    /** "load or one is not 0 .. 10^12": what is. */
    private static void countAtItsBounds() {
        NailRules rules = new NailRules();
        Check.same("the most of both", rules.count(MOST, MOST), 1);
        Check.same("the most load, just too much", rules.count(MOST, MOST / 50 - 1), NailRules.NONE);
        Check.same("the most load, just held", rules.count(MOST, MOST / 50), 100);
        Check.same("no load, the most of one", rules.count(0, MOST), 1);
        Check.same("the most load, nothing holds", rules.count(MOST, 0), NailRules.NONE);
    }

    /** "load or one is not 0 .. 10^12". */
    private static void countRefuses() {
        for (long bad : new long[] {-1, MOST + 1, Long.MIN_VALUE, Long.MAX_VALUE, 1L << 62, -1L << 32}) {
            Check.refuses("load " + bad, Check.ARGUMENT, rules -> rules.count(bad, 1));
            Check.refuses("one " + bad, Check.ARGUMENT, rules -> rules.count(1, bad));
        }
    }
}
