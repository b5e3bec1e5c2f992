/**
 * Promises 14 to 18: member, in, teeth, thick, hole. Above a test stand the document's words whose edge it looks
 * at: the last input that they allow, and the first that they don't.
 */
public final class MemberTest {
    private static final int[] FAR = {Integer.MIN_VALUE, Integer.MAX_VALUE};
    private static final int[] NO_COORDINATE = {-10001, 10001, FAR[0], FAR[1]};

    public static void main(String[] args) {
        member();
        in();
        teeth();
        thick();
        hole();
        Check.end();
    }

    private static void member() {
        memberHasRoomForSix();
        memberAtItsBounds();
        memberOfOnePlaceIsNone();
        memberRefusesPlaces();
        memberRefusesWide();
        memberRefusesArgumentsFirst();
    }

    /** "A MEMBER more: its number", "there are 6". */
    private static void memberHasRoomForSix() {
        NailRules rules = new NailRules();
        for (int i = 0; i < 6; i++) {
            Check.same("member " + i, rules.member(i, 0, i, 10, 1), i);
        }
        Check.fails("a seventh", Check.STATE, () -> rules.member(0, 0, 0, 10, 1));
        for (int i = 0; i < 6; i++) {
            Check.yes("in member " + i, rules.in(i, i, 5));
            Check.no("not in member " + i, rules.in(i, i + 1, 5));
        }
        Check.refuses("a member more", Check.STATE, State::full, full -> full.member(0, 0, 0, 10, 1));
        NailRules alike = new NailRules();
        Check.same("the first", alike.member(0, 0, 1, 1, 1), 0);
        Check.same("the same once more", alike.member(0, 0, 1, 1, 1), 1);
    }

    /** "a place is not -10000 .. 10000 .. or wide not 1 .. 10000": what is. */
    private static void memberAtItsBounds() {
        NailRules rules = new NailRules();
        Check.same("from corner to corner", rules.member(-10000, 10000, 10000, -10000, 10000), 0);
        Check.same("back", rules.member(10000, -10000, -10000, 10000, 1), 1);
        Check.same("the other two corners", rules.member(-10000, -10000, 10000, 10000, 2), 2);
    }

    /** "both ends are one": only if both of their numbers are. */
    private static void memberOfOnePlaceIsNone() {
        Check.refuses("one place", Check.ARGUMENT, rules -> rules.member(7, -3, 7, -3, 1));
        Check.refuses("the middle", Check.ARGUMENT, rules -> rules.member(0, 0, 0, 0, 1));
        NailRules rules = new NailRules();
        Check.same("one x", rules.member(5, 1, 5, 2, 1), 0);
        Check.same("one y", rules.member(1, 5, 2, 5, 1), 1);
        Check.same("x is y", rules.member(5, 1, 1, 5, 1), 2);
    }

    /** "a place is not -10000 .. 10000". */
    private static void memberRefusesPlaces() {
        for (int bad : NO_COORDINATE) {
            Check.refuses("x0 " + bad, Check.ARGUMENT, rules -> rules.member(bad, 0, 1, 1, 1));
            Check.refuses("y0 " + bad, Check.ARGUMENT, rules -> rules.member(0, bad, 1, 1, 1));
            Check.refuses("x1 " + bad, Check.ARGUMENT, rules -> rules.member(0, 0, bad, 1, 1));
            Check.refuses("y1 " + bad, Check.ARGUMENT, rules -> rules.member(0, 0, 1, bad, 1));
        }
    }

    /** "wide not 1 .. 10000". */
    private static void memberRefusesWide() {
        for (int bad : new int[] {0, 10001, -1, FAR[0], FAR[1]}) {
            Check.refuses("wide " + bad, Check.ARGUMENT, rules -> rules.member(0, 0, 1, 1, bad));
        }
    }

    /** "IllegalArgumentException .. IllegalStateException": the first one is named first. */
    private static void memberRefusesArgumentsFirst() {
        Check.refuses("x0 without room", Check.ARGUMENT, State::full, rules -> rules.member(10001, 0, 1, 1, 1));
        Check.refuses("y1 without room", Check.ARGUMENT, State::full, rules -> rules.member(0, 0, 1, -10001, 1));
        Check.refuses("one place without room", Check.ARGUMENT, State::full, rules -> rules.member(2, 2, 2, 2, 1));
        Check.refuses("wide without room", Check.ARGUMENT, State::full, rules -> rules.member(0, 0, 1, 1, 0));
    }

    private static void in() {
        inAtMostHalfItsWidth();
        inBesideItOnly();
        inAnUprightMember();
        inASlantingMember();
        inTheShortestMember();
        inAnOddWidth();
        inTheLargest();
        inRefusesMembers();
        inRefusesPlaces();
    }

    /** "its distance from the line of the member is at most WIDE / 2". */
    private static void inAtMostHalfItsWidth() {
        NailRules rules = new NailRules();
        rules.member(0, 0, 100, 0, 40);
        Check.yes("on it", rules.in(0, 50, 0));
        Check.yes("20 above", rules.in(0, 50, 20));
        Check.no("21 above", rules.in(0, 50, 21));
        Check.yes("20 below", rules.in(0, 50, -20));
        Check.no("21 below", rules.in(0, 50, -21));
    }

    /** "it lies beside it (not beyond its ends)". */
    private static void inBesideItOnly() {
        NailRules rules = new NailRules();
        rules.member(0, 0, 100, 0, 40);
        Check.yes("at its start", rules.in(0, 0, 0));
        Check.no("before", rules.in(0, -1, 0));
        Check.yes("at its end", rules.in(0, 100, 0));
        Check.no("beyond", rules.in(0, 101, 0));
        Check.yes("a corner", rules.in(0, 100, 20));
        Check.no("beyond a corner", rules.in(0, 101, 20));
        Check.no("above a corner", rules.in(0, 100, 21));
        Check.yes("another corner", rules.in(0, 0, -20));
        Check.no("before another corner", rules.in(0, -1, -20));
    }

    private static void inAnUprightMember() {
        NailRules rules = new NailRules();
        rules.member(10, 80, 10, -20, 6);
        Check.yes("its head", rules.in(0, 13, 80));
        Check.no("above its head", rules.in(0, 10, 81));
        Check.yes("its foot", rules.in(0, 7, -20));
        Check.no("below its foot", rules.in(0, 10, -21));
        Check.no("beside on the right", rules.in(0, 14, 30));
        Check.no("beside on the left", rules.in(0, 6, 30));
    }

    private static void inASlantingMember() {
        NailRules rules = new NailRules();
        // Along 3, 4: the distance of x, y from its line is |4x - 3y| / 5.
        rules.member(0, 0, 30, 40, 10);
        Check.yes("on it", rules.in(0, 15, 20));
        Check.yes("just 5 away", rules.in(0, 19, 17));
        Check.yes("just 5 away on the other side", rules.in(0, 11, 23));
        Check.no("5 and a fifth away", rules.in(0, 20, 18));
        Check.yes("beside its start", rules.in(0, 4, -3));
        Check.no("a little before its start", rules.in(0, 3, -3));
        Check.yes("beside its end", rules.in(0, 34, 37));
        Check.no("a little beyond its end", rules.in(0, 34, 38));
        rules.member(30, 40, 0, 0, 10);
        Check.yes("the other way, just 5 away", rules.in(1, 19, 17));
        Check.no("the other way, before", rules.in(1, 34, 38));
        Check.no("the other way, beyond", rules.in(1, 3, -3));
    }

    private static void inTheShortestMember() {
        NailRules rules = new NailRules();
        rules.member(0, 0, 1, 0, 10000);
        Check.yes("at its start", rules.in(0, 0, 0));
        Check.yes("at its end", rules.in(0, 1, 0));
        Check.no("just before", rules.in(0, -1, 0));
        Check.yes("far beside", rules.in(0, 1, 5000));
        Check.no("too far beside", rules.in(0, 1, 5001));
        Check.no("just beyond", rules.in(0, 2, 5000));
    }

    /** "WIDE / 2": half of an odd width is not cut off. */
    private static void inAnOddWidth() {
        NailRules rules = new NailRules();
        rules.member(0, 0, 100, 0, 1);
        rules.member(0, 0, 1000, 1000, 7);
        rules.member(0, 0, 40, 30, 7);
        Check.yes("on the line", rules.in(0, 50, 0));
        Check.no("one away of a half", rules.in(0, 50, 1));
        // d, 0 beside it is d / sqrt(2) away, and half of 7 is 3.5.
        Check.yes("2.83 away", rules.in(1, 504, 500));
        Check.no("3.54 away", rules.in(1, 505, 500));
        // |3x - 4y| / 5 away: what is within 3.5, but not within a half that is cut off, must be in.
        Check.yes("3.4 away", rules.in(2, 7, 1));
        Check.yes("3.2 away", rules.in(2, 8, 2));
        Check.no("3.6 away", rules.in(2, 10, 3));
        Check.yes("3.4 away further on", rules.in(2, 11, 4));
    }

    private static void inTheLargest() {
        NailRules rules = new NailRules();
        rules.member(-10000, -10000, 10000, 10000, 10000);
        rules.member(-10000, 10000, 10000, 9999, 1);
        Check.yes("an end", rules.in(0, 10000, 10000));
        Check.yes("the other", rules.in(0, -10000, -10000));
        Check.no("far away", rules.in(0, -10000, 10000));
        Check.no("far away on the other side", rules.in(0, 10000, -10000));
        Check.yes("nearly too far", rules.in(0, 5000, -2071));
        Check.no("just too far", rules.in(0, 5000, -2072));
        Check.yes("half a tenth away", rules.in(1, 0, 10000));
        Check.yes("half a tenth away below", rules.in(1, 0, 9999));
        Check.no("a tenth and a half away", rules.in(1, 0, 9998));
        Check.no("far below", rules.in(1, 0, -10000));
    }

    /** "IndexOutOfBoundsException": no such member, named before x and y. */
    private static void inRefusesMembers() {
        Check.refuses("no member", Check.INDEX, NailRules::new, rules -> rules.in(0, 0, 0));
        Check.refuses("no member before x", Check.INDEX, NailRules::new, rules -> rules.in(0, 10001, 0));
        for (int bad : new int[] {-1, 2, 5, 6, FAR[0], FAR[1]}) {
            Check.refuses("member " + bad + " of two", Check.INDEX, rules -> rules.in(bad, 0, 0));
            Check.refuses("member before y, " + bad, Check.INDEX, rules -> rules.in(bad, 0, -10001));
        }
        Check.refuses("member 6 of six", Check.INDEX, State::full, rules -> rules.in(6, 0, 0));
        Check.yes("member 5 of six", State.full().in(5, 0, 50));
    }

    /** "x or y is not -10000 .. 10000". */
    private static void inRefusesPlaces() {
        for (int bad : NO_COORDINATE) {
            Check.refuses("x " + bad, Check.ARGUMENT, rules -> rules.in(0, bad, 0));
            Check.refuses("y " + bad, Check.ARGUMENT, rules -> rules.in(0, 0, bad));
        }
        Check.leavesAll("in", State::full, rules -> rules.in(0, -10000, 10000));
    }

    private static void teeth() {
        teethOfAPlate();
        teethWithinThePlate();
        teethOfTheSmallestPlate();
        teethOfTheLargestPlate();
        teethBeyondThePlaces();
        teethRefuseMembers();
        teethRefuseNumbers();
    }

    /** "TEETH of a plate: at x + STEP * i, y + STEP * j". */
    private static void teethOfAPlate() {
        NailRules rules = new NailRules();
        rules.member(0, 0, 100, 0, 40);
        rules.member(0, 0, 100, 100, 20);
        Check.same("half of a plate", rules.teeth(0, 0, 0, 100, 50, 10), 33);
        Check.same("from before", rules.teeth(0, -50, -50, 100, 100, 10), 30);
        Check.same("w is more than h", rules.teeth(0, 0, 0, 60, 10, 10), 14);
        Check.same("h is more than w", rules.teeth(0, 0, 0, 10, 60, 10), 6);
        Check.same("none is in it", rules.teeth(0, 0, 21, 100, 100, 10), 0);
        Check.same("teeth across", rules.teeth(1, 0, 0, 100, 100, 10), 31);
    }

    /** "within w by h". */
    private static void teethWithinThePlate() {
        NailRules rules = new NailRules();
        rules.member(0, 0, 100, 0, 40);
        Check.same("the last column just within", rules.teeth(0, 0, 0, 30, 0, 15), 3);
        Check.same("the last column just beyond", rules.teeth(0, 0, 0, 29, 0, 15), 2);
        Check.same("the last row just within", rules.teeth(0, 0, -15, 0, 30, 15), 3);
        Check.same("the last row just beyond", rules.teeth(0, 0, -15, 0, 29, 15), 2);
    }

    /** "w or h not 0 .. 1000": on a plate of 0 by 0 there is one tooth. */
    private static void teethOfTheSmallestPlate() {
        NailRules rules = new NailRules();
        rules.member(0, 0, 100, 0, 40);
        Check.same("one tooth", rules.teeth(0, 5, 20, 0, 0, 10), 1);
        Check.same("one tooth beside", rules.teeth(0, 5, 21, 0, 0, 10), 0);
        Check.same("one tooth at the longest step", rules.teeth(0, 5, 5, 0, 0, 1000), 1);
        Check.same("one row", rules.teeth(0, 0, 0, 100, 0, 10), 11);
        Check.same("one column", rules.teeth(0, 0, -50, 0, 100, 10), 5);
    }

    /** "w or h not 0 .. 1000, or step not 10 .. 1000": what is. */
    private static void teethOfTheLargestPlate() {
        NailRules rules = new NailRules();
        rules.member(-10000, -10000, 10000, 10000, 10000);
        Check.same("the most teeth", rules.teeth(0, 0, 0, 1000, 1000, 10), 10201);
        Check.same("a step of 11", rules.teeth(0, 0, 0, 1000, 1000, 11), 91 * 91);
        Check.same("a step of 999", rules.teeth(0, 0, 0, 1000, 1000, 999), 4);
        Check.same("a step of 1000", rules.teeth(0, 0, 0, 1000, 1000, 1000), 4);
        Check.same("a step beyond the plate", rules.teeth(0, 0, 0, 999, 999, 1000), 1);
        Check.same("a step beyond one side", rules.teeth(0, 0, 0, 1000, 999, 1000), 2);
    }

    /** "x or y is not -10000 .. 10000": the plate's start, while its teeth may be farther. */
    private static void teethBeyondThePlaces() {
        NailRules rules = new NailRules();
        rules.member(-10000, 10000, 10000, 10000, 10000);
        rules.member(-10000, -10000, 10000, -10000, 1);
        rules.member(-9000, -9000, -10000, -10000, 10000);
        Check.same("only what is beside it", rules.teeth(0, 10000, 10000, 1000, 1000, 100), 11);
        Check.same("farther than a place can be", rules.teeth(0, 9000, 10000, 1000, 1000, 1000), 4);
        Check.same("from the lowest on, none", rules.teeth(0, -10000, -10000, 1000, 1000, 10), 0);
        Check.same("from the lowest on", rules.teeth(1, -10000, -10000, 1000, 1000, 10), 101);
        Check.same("from the lowest on, across", rules.teeth(2, -10000, -10000, 1000, 1000, 10), 10201);
    }

    /** "IndexOutOfBoundsException": no such member, named before all numbers. */
    private static void teethRefuseMembers() {
        Check.refuses("no member", Check.INDEX, NailRules::new, rules -> rules.teeth(0, 0, 0, 0, 0, 10));
        Check.refuses("no member before w, step", Check.INDEX, NailRules::new, rules -> rules.teeth(0, 0, 0, -1, 0, 0));
        for (int bad : new int[] {-1, 2, 5, 6, FAR[0], FAR[1]}) {
            Check.refuses("member " + bad + " of two", Check.INDEX, rules -> rules.teeth(bad, 0, 0, 0, 0, 10));
            Check.refuses("member before all, " + bad, Check.INDEX, rules -> rules.teeth(bad, 10001, 10001, -1, -1, 9));
        }
        Check.refuses("member 6 of six", Check.INDEX, State::full, rules -> rules.teeth(6, 0, 0, 0, 0, 10));
        Check.same("member 5 of six", State.full().teeth(5, 0, 50, 500, 0, 10), 51);
    }

    /** "x or y is not -10000 .. 10000, w or h not 0 .. 1000, or step not 10 .. 1000". */
    private static void teethRefuseNumbers() {
        for (int bad : NO_COORDINATE) {
            Check.refuses("x " + bad, Check.ARGUMENT, rules -> rules.teeth(0, bad, 0, 0, 0, 10));
            Check.refuses("y " + bad, Check.ARGUMENT, rules -> rules.teeth(0, 0, bad, 0, 0, 10));
        }
        for (int bad : new int[] {-1, 1001, FAR[0], FAR[1]}) {
            Check.refuses("w " + bad, Check.ARGUMENT, rules -> rules.teeth(0, 0, 0, bad, 0, 10));
            Check.refuses("h " + bad, Check.ARGUMENT, rules -> rules.teeth(0, 0, 0, 0, bad, 10));
        }
        for (int bad : new int[] {9, 1001, 0, -1, -10, FAR[0], FAR[1]}) {
            Check.refuses("step " + bad, Check.ARGUMENT, rules -> rules.teeth(0, 0, 0, 100, 100, bad));
        }
        Check.leavesAll("teeth", State::full, rules -> rules.teeth(0, 0, 0, 1000, 1000, 10));
    }

    private static void thick() {
        thickEnough();
        thickOfTheLargest();
        thickRefuses();
    }

    /** "THIN * SIZE at least". */
    private static void thickEnough() {
        NailRules rules = Check.with("n size 30;n thin 7;s thin 3;b size 3");
        Check.yes("just enough", rules.thick(0, 210));
        Check.no("not enough", rules.thick(0, 209));
        Check.yes("just enough by THIN", rules.thick(1, 3));
        Check.no("not enough by THIN", rules.thick(1, 2));
        Check.yes("just enough by SIZE", rules.thick(2, 3));
        Check.no("not enough by SIZE", rules.thick(2, 2));
        Check.yes("1 for a new kind", rules.thick(3, 1));
        Check.no("0 for a new kind", rules.thick(3, 0));
    }

    private static void thickOfTheLargest() {
        NailRules rules = Check.with("d size 9999;d thin 9999");
        Check.yes("the most", rules.thick(3, 9999 * 9999));
        Check.no("less than the most", rules.thick(3, 9999 * 9999 - 1));
        Check.yes("far more", rules.thick(3, Integer.MAX_VALUE));
        Check.no("nothing", rules.thick(3, 0));
    }

    /** "IndexOutOfBoundsException", named first; "thick is below 0". */
    private static void thickRefuses() {
        for (int bad : new int[] {-1, 4, FAR[0], FAR[1]}) {
            Check.refuses("kind " + bad, Check.INDEX, rules -> rules.thick(bad, 1));
            Check.refuses("kind before thick, " + bad, Check.INDEX, rules -> rules.thick(bad, -1));
        }
        Check.refuses("thick -1", Check.ARGUMENT, rules -> rules.thick(0, -1));
        Check.refuses("thick far below", Check.ARGUMENT, rules -> rules.thick(0, Integer.MIN_VALUE));
        Check.leavesAll("thick 0", State::busy, rules -> rules.thick(0, 0));
    }

    private static void hole() {
        holeOfANail();
        holeOfAScrew();
        holeOfABolt();
        holeOfADowel();
        holeRefuses();
    }

    /** "for a nail of SIZE above 50 .. SIZE * 7 / 10 ..; else 0". */
    private static void holeOfANail() {
        Check.same("a new nail", new NailRules().hole(0), 0);
        Check.same("a nail of 49", Check.with("n size 49").hole(0), 0);
        Check.same("a nail of 50", Check.with("n size 50").hole(0), 0);
        Check.same("a nail of 51", Check.with("n size 51").hole(0), 35);
        Check.same("a nail of 60", Check.with("n size 60").hole(0), 42);
        Check.same("a nail of 9999", Check.with("n size 9999").hole(0), 6999);
    }

    /** "for a screw SIZE * 7 / 10": of any SIZE. */
    private static void holeOfAScrew() {
        Check.same("a new screw", new NailRules().hole(1), 0);
        Check.same("a screw of 2", Check.with("s size 2").hole(1), 1);
        Check.same("a screw of 9", Check.with("s size 9").hole(1), 6);
        Check.same("a screw of 50", Check.with("s size 50").hole(1), 35);
        Check.same("a screw of 51", Check.with("s size 51").hole(1), 35);
        Check.same("a screw of 9999", Check.with("s size 9999").hole(1), 6999);
    }

    /** "for a bolt SIZE + 10". */
    private static void holeOfABolt() {
        Check.same("a new bolt", new NailRules().hole(2), 11);
        Check.same("a bolt of 50", Check.with("b size 50").hole(2), 60);
        Check.same("a bolt of 9999", Check.with("b size 9999").hole(2), 10009);
    }

    /** "for a dowel SIZE". */
    private static void holeOfADowel() {
        Check.same("a new dowel", new NailRules().hole(3), 1);
        Check.same("a dowel of 50", Check.with("d size 50").hole(3), 50);
        Check.same("a dowel of 9999", Check.with("d size 9999").hole(3), 9999);
    }

    /** "IndexOutOfBoundsException". */
    private static void holeRefuses() {
        for (int bad : new int[] {-1, 4, FAR[0], FAR[1]}) {
            Check.refuses("kind " + bad, Check.INDEX, rules -> rules.hole(bad));
        }
        Check.leavesAll("hole", State::busy, rules -> rules.hole(0));
    }
}
