/** Promises 14 to 18: member, in, teeth, thick, hole. */
public final class MemberTest {
    public static void main(String[] args) {
        memberCounts();
        memberRefuses();
        inAStraightMember();
        inASlantingMember();
        inAnOddWidth();
        inTheLargest();
        inRefuses();
        teethOfAPlate();
        teethBeyondThePlaces();
        teethRefuse();
        thickEnough();
        holesOfEachKind();
        Check.end();
    }

    private static void memberCounts() {
        NailRules rules = new NailRules();
        for (int i = 0; i < 6; i++) {
            Check.same("member " + i, rules.member(i, 0, i, 10, 1), i);
        }
        Check.fails("a seventh", Check.STATE, () -> rules.member(0, 0, 0, 10, 1));
        Check.fails("an argument before the room", Check.ARGUMENT, () -> rules.member(0, 0, 0, 0, 1));
        for (int i = 0; i < 6; i++) {
            Check.yes("in member " + i, rules.in(i, i, 5));
            Check.no("not in member " + i, rules.in(i, i + 1, 5));
        }
    }

    private static void memberRefuses() {
        NailRules rules = new NailRules();
        for (int far : new int[] {-10001, 10001, Integer.MIN_VALUE, Integer.MAX_VALUE}) {
            Check.fails("x0 " + far, Check.ARGUMENT, () -> rules.member(far, 0, 1, 1, 1));
            Check.fails("y0 " + far, Check.ARGUMENT, () -> rules.member(0, far, 1, 1, 1));
            Check.fails("x1 " + far, Check.ARGUMENT, () -> rules.member(0, 0, far, 1, 1));
            Check.fails("y1 " + far, Check.ARGUMENT, () -> rules.member(0, 0, 1, far, 1));
        }
        Check.fails("one place", Check.ARGUMENT, () -> rules.member(7, -3, 7, -3, 1));
        Check.fails("wide 0", Check.ARGUMENT, () -> rules.member(0, 0, 1, 1, 0));
        Check.fails("wide 10001", Check.ARGUMENT, () -> rules.member(0, 0, 1, 1, 10001));
        Check.same("the first", rules.member(-10000, 10000, 10000, -10000, 10000), 0);
        Check.same("one x", rules.member(5, 1, 5, 2, 1), 1);
        Check.same("one y", rules.member(1, 5, 2, 5, 1), 2);
    }

    private static void inAStraightMember() {
        NailRules rules = new NailRules();
        rules.member(0, 0, 100, 0, 40);
        rules.member(10, 80, 10, -20, 6);
        Check.yes("at an end", rules.in(0, 0, 0));
        Check.yes("at the other end", rules.in(0, 100, 0));
        Check.no("before", rules.in(0, -1, 0));
        Check.no("beyond", rules.in(0, 101, 0));
        Check.yes("a corner", rules.in(0, 100, 20));
        Check.yes("another corner", rules.in(0, 0, -20));
        Check.no("above", rules.in(0, 50, 21));
        Check.no("below", rules.in(0, 50, -21));
        Check.yes("upright, from above", rules.in(1, 13, 80));
        Check.no("upright, beside", rules.in(1, 14, 30));
        Check.no("upright, beside on the left", rules.in(1, 6, 30));
        Check.yes("upright, its foot", rules.in(1, 7, -20));
        Check.no("upright, below its foot", rules.in(1, 10, -21));
        Check.no("upright, above it", rules.in(1, 10, 81));
        rules.member(0, 0, 1, 0, 10000);
        Check.no("just before the shortest", rules.in(2, -1, 0));
        Check.yes("far beside the shortest", rules.in(2, 1, 5000));
        Check.no("just beyond the shortest", rules.in(2, 2, 5000));
    }

    private static void inASlantingMember() {
        NailRules rules = new NailRules();
        // Along 3, 4: the distance of x, y from its line is |4x - 3y| / 5.
        rules.member(0, 0, 30, 40, 10);
        Check.yes("on it", rules.in(0, 15, 20));
        Check.yes("just 5 away", rules.in(0, 19, 17));
        Check.yes("just 5 away on the other side", rules.in(0, 11, 23));
        Check.no("5 and a fifth away", rules.in(0, 20, 18));
        Check.yes("beside its start", rules.in(0, 4, -3));
        Check.no("a little before its start", rules.in(0, 3, -3));
        Check.yes("beside its end", rules.in(0, 34, 37));
        Check.no("a little beyond its end", rules.in(0, 34, 38));
        rules.member(30, 40, 0, 0, 10);
        Check.yes("the other way, just 5 away", rules.in(1, 19, 17));
        Check.no("the other way, beyond", rules.in(1, 34, 38));
    }

    private static void inAnOddWidth() {
        NailRules rules = new NailRules();
        rules.member(0, 0, 100, 0, 1);
        rules.member(0, 0, 1000, 1000, 7);
        Check.yes("on the line", rules.in(0, 50, 0));
        Check.no("one away of a half", rules.in(0, 50, 1));
        // d, 0 beside it is d / sqrt(2) away, and half of 7 is 3.5.
        Check.yes("2.83 away", rules.in(1, 504, 500));
        Check.no("3.54 away", rules.in(1, 505, 500));
        rules.member(0, 0, 40, 30, 7);
        // |3x - 4y| / 5 away: what is within 3.5, but not within a half that is cut off, must be in.
        Check.yes("3.4 away", rules.in(2, 7, 1));
        Check.yes("3.2 away", rules.in(2, 8, 2));
        Check.no("3.6 away", rules.in(2, 10, 3));
        Check.yes("3.4 away further on", rules.in(2, 11, 4));
    }

    private static void inTheLargest() {
        NailRules rules = new NailRules();
        rules.member(-10000, -10000, 10000, 10000, 10000);
        rules.member(-10000, 10000, 10000, 9999, 1);
        Check.yes("an end", rules.in(0, 10000, 10000));
        Check.yes("the other", rules.in(0, -10000, -10000));
        Check.no("far away", rules.in(0, -10000, 10000));
        Check.no("far away on the other side", rules.in(0, 10000, -10000));
        Check.yes("nearly too far", rules.in(0, 5000, -2071));
        Check.no("just too far", rules.in(0, 5000, -2072));
        Check.yes("half a tenth away", rules.in(1, 0, 10000));
        Check.yes("half a tenth away below", rules.in(1, 0, 9999));
        Check.no("a tenth and a half away", rules.in(1, 0, 9998));
        Check.no("far below", rules.in(1, 0, -10000));
    }

    private static void inRefuses() {
        NailRules rules = new NailRules();
        Check.fails("no member", Check.INDEX, () -> rules.in(0, 10001, 0));
        rules.member(0, 0, 1, 1, 1);
        Check.fails("member -1", Check.INDEX, () -> rules.in(-1, 0, 0));
        Check.fails("member 1", Check.INDEX, () -> rules.in(1, 0, 0));
        Check.fails("member 6", Check.INDEX, () -> rules.in(6, 0, 0));
        Check.fails("x -10001", Check.ARGUMENT, () -> rules.in(0, -10001, 0));
        Check.fails("x 10001", Check.ARGUMENT, () -> rules.in(0, 10001, 0));
        Check.fails("y -10001", Check.ARGUMENT, () -> rules.in(0, 0, -10001));
        Check.fails("y 10001", Check.ARGUMENT, () -> rules.in(0, 0, 10001));
    }

    private static void teethOfAPlate() {
        NailRules rules = new NailRules();
        rules.member(0, 0, 100, 0, 40);
        rules.member(-10000, -10000, 10000, 10000, 10000);
        rules.member(0, 0, 100, 100, 20);
        Check.same("half of a plate", rules.teeth(0, 0, 0, 100, 50, 10), 33);
        Check.same("from before", rules.teeth(0, -50, -50, 100, 100, 10), 30);
        Check.same("w is more than h", rules.teeth(0, 0, 0, 60, 10, 10), 14);
        Check.same("h is more than w", rules.teeth(0, 0, 0, 10, 60, 10), 6);
        Check.same("the last column just within", rules.teeth(0, 0, 0, 30, 0, 15), 3);
        Check.same("the last column just beyond", rules.teeth(0, 0, 0, 29, 0, 15), 2);
        Check.same("the last row just within", rules.teeth(0, 0, -15, 0, 30, 15), 3);
        Check.same("the last row just beyond", rules.teeth(0, 0, -15, 0, 29, 15), 2);
        Check.same("a plate of one tooth", rules.teeth(0, 5, 5, 0, 0, 10), 1);
        Check.same("a plate of one tooth beside", rules.teeth(0, 5, 21, 0, 0, 10), 0);
        Check.same("a step beyond the plate", rules.teeth(0, 5, 5, 999, 999, 1000), 1);
        Check.same("a step of 1000", rules.teeth(1, 0, 0, 1000, 1000, 1000), 4);
        Check.same("the most teeth", rules.teeth(1, 0, 0, 1000, 1000, 10), 10201);
        Check.same("teeth across", rules.teeth(2, 0, 0, 100, 100, 10), 31);
    }

    private static void teethBeyondThePlaces() {
        NailRules rules = new NailRules();
        rules.member(-10000, 10000, 10000, 10000, 10000);
        Check.same("only what is beside it", rules.teeth(0, 10000, 10000, 1000, 1000, 100), 11);
        Check.same("from the lowest on", rules.teeth(0, -10000, -10000, 1000, 1000, 10), 0);
    }

    private static void teethRefuse() {
        NailRules rules = new NailRules();
        Check.fails("no member", Check.INDEX, () -> rules.teeth(0, 0, 0, -1, 0, 0));
        rules.member(0, 0, 1, 1, 1);
        Check.fails("member -1", Check.INDEX, () -> rules.teeth(-1, 0, 0, 0, 0, 10));
        Check.fails("member 1", Check.INDEX, () -> rules.teeth(1, 0, 0, 0, 0, 10));
        Check.fails("x -10001", Check.ARGUMENT, () -> rules.teeth(0, -10001, 0, 0, 0, 10));
        Check.fails("x 10001", Check.ARGUMENT, () -> rules.teeth(0, 10001, 0, 0, 0, 10));
        Check.fails("y -10001", Check.ARGUMENT, () -> rules.teeth(0, 0, -10001, 0, 0, 10));
        Check.fails("y 10001", Check.ARGUMENT, () -> rules.teeth(0, 0, 10001, 0, 0, 10));
        Check.fails("w -1", Check.ARGUMENT, () -> rules.teeth(0, 0, 0, -1, 0, 10));
        Check.fails("w 1001", Check.ARGUMENT, () -> rules.teeth(0, 0, 0, 1001, 0, 10));
        Check.fails("h -1", Check.ARGUMENT, () -> rules.teeth(0, 0, 0, 0, -1, 10));
        Check.fails("h 1001", Check.ARGUMENT, () -> rules.teeth(0, 0, 0, 0, 1001, 10));
        Check.fails("step 9", Check.ARGUMENT, () -> rules.teeth(0, 0, 0, 0, 0, 9));
        Check.fails("step 0", Check.ARGUMENT, () -> rules.teeth(0, 0, 0, 0, 0, 0));
        Check.fails("step 1001", Check.ARGUMENT, () -> rules.teeth(0, 0, 0, 0, 0, 1001));
    }

    private static void thickEnough() {
        NailRules rules = Check.with("n size 30;n thin 7;d size 9999;d thin 9999");
        Check.yes("just enough", rules.thick(0, 210));
        Check.no("not enough", rules.thick(0, 209));
        Check.yes("1 for a new kind", rules.thick(1, 1));
        Check.no("0 for a new kind", rules.thick(1, 0));
        Check.yes("the most", rules.thick(3, 9999 * 9999));
        Check.no("less than the most", rules.thick(3, 9999 * 9999 - 1));
        Check.yes("far more", rules.thick(3, Integer.MAX_VALUE));
        Check.fails("kind -1", Check.INDEX, () -> rules.thick(-1, -1));
        Check.fails("kind 4", Check.INDEX, () -> rules.thick(4, 1));
        Check.fails("thick -1", Check.ARGUMENT, () -> rules.thick(0, -1));
        Check.fails("thick far below", Check.ARGUMENT, () -> rules.thick(0, Integer.MIN_VALUE));
    }

    private static void holesOfEachKind() {
        NailRules rules = new NailRules();
        Check.same("a new nail", rules.hole(0), 0);
        Check.same("a new screw", rules.hole(1), 0);
        Check.same("a new bolt", rules.hole(2), 11);
        Check.same("a new dowel", rules.hole(3), 1);
        Check.reads(rules, "n size 50;s size 50;b size 50;d size 50", 4);
        Check.same("a nail of 50", rules.hole(0), 0);
        Check.same("a screw of 50", rules.hole(1), 35);
        Check.same("a bolt of 50", rules.hole(2), 60);
        Check.same("a dowel of 50", rules.hole(3), 50);
        Check.reads(rules, "n size 51;s size 9;b size 9999;d size 9999", 4);
        Check.same("a nail of 51", rules.hole(0), 35);
        Check.same("a screw of 9", rules.hole(1), 6);
        Check.same("a bolt of 9999", rules.hole(2), 10009);
        Check.same("a dowel of 9999", rules.hole(3), 9999);
        Check.fails("kind -1", Check.INDEX, () -> rules.hole(-1));
        Check.fails("kind 4", Check.INDEX, () -> rules.hole(4));
    }
}
