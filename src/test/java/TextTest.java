/** Promises 1 to 4: a new object, unit, read, rule. */
public final class TextTest {
    private static final String[] WORDS = {"size", "force", "edge", "end", "side", "row", "thin"};

    public static void main(String[] args) {
        newObjectHasOnes();
        newObjectHasNothing();
        unitTakesPrintableCharacters();
        unitRefusesTheCharacterBehindTheRoom();
        readSetsEveryWordOfEveryKind();
        readEmptiesTheText();
        laterStatementsWin();
        numbersHaveOneToFourDigits();
        faultsOfShape();
        faultsOfWords();
        faultsOfNumbers();
        sixteenStatementsAtMost();
        onlyWhatIsBehindAFaultIsNotSet();
        ruleRefusesWhatIsNotThere();
        Check.end();
    }

    private static void newObjectHasOnes() {
        NailRules rules = new NailRules();
        for (int kind = 0; kind < 4; kind++) {
            for (int what = 0; what < 7; what++) {
                Check.same("rule(" + kind + ", " + what + ")", rules.rule(kind, what), 1);
            }
        }
    }

    private static void newObjectHasNothing() {
        NailRules rules = new NailRules();
        Check.same("NONE", NailRules.NONE, -1);
        Check.same("read of nothing", rules.read(), -1);
        Check.same("keeps without places", rules.keeps(0, 1, 1), 0);
        Check.same("holds with WET 100", rules.holds(0, 100, 100, 0, 0), 4);
        Check.same("together with LESS 2", rules.together(2, 100), 196);
        Check.fails("at without pattern", Check.STATE, () -> rules.at(0, 0));
        Check.fails("in without member", Check.INDEX, () -> rules.in(0, 0, 0));
        Check.same("first place", rules.place(0, 0), 1);
        Check.same("first member", rules.member(0, 0, 1, 0, 1), 0);
    }

    private static void unitTakesPrintableCharacters() {
        NailRules rules = new NailRules();
        int[] refused = {31, 127, 0, -1, 128, 255, 256 + 'n', 65536 + 'n', Integer.MIN_VALUE, Integer.MAX_VALUE};
        for (int u : refused) {
            Check.no("unit(" + u + ")", rules.unit(u));
        }
        Check.reads(rules, "n size 7", 1);
        Check.yes("unit(32)", rules.unit(32));
        Check.same("a space first", rules.read(), -1);
        Check.yes("unit(126)", rules.unit(126));
        Check.same("a tilde first", rules.read(), -1);
    }

    private static void unitRefusesTheCharacterBehindTheRoom() {
        NailRules rules = new NailRules();
        StringBuilder text = new StringBuilder();
        for (int i = 0; i < 15; i++) {
            text.append("n force 1111;");
        }
        // 195 characters so far; "s row" stops where a space must come.
        text.append("s row");
        Check.tell(rules, text.toString());
        Check.no("unit behind 200", rules.unit(' '));
        Check.no("unit behind 200 again", rules.unit('x'));
        Check.same("read of 200", rules.read(), -201);
        Check.yes("unit when empty again", rules.unit('n'));
    }

    private static void readSetsEveryWordOfEveryKind() {
        NailRules rules = new NailRules();
        String kinds = "nsbd";
        for (int kind = 0; kind < 4; kind++) {
            StringBuilder text = new StringBuilder();
            for (int what = 0; what < 7; what++) {
                text.append(what == 0 ? "" : ";").append(kinds.charAt(kind)).append(' ')
                    .append(WORDS[what]).append(' ').append(10 * kind + what + 2);
            }
            Check.reads(rules, text.toString(), 7);
        }
        for (int kind = 0; kind < 4; kind++) {
            for (int what = 0; what < 7; what++) {
                Check.same("rule(" + kind + ", " + what + ")", rules.rule(kind, what), 10 * kind + what + 2);
            }
        }
    }

    private static void readEmptiesTheText() {
        NailRules rules = new NailRules();
        Check.reads(rules, "n size 3", 1);
        Check.same("read again", rules.read(), -1);
        Check.reads(rules, "n size x", -8);
        Check.same("read again behind a fault", rules.read(), -1);
        Check.reads(rules, "b row 4", 1);
        Check.same("size is as before", rules.rule(0, 0), 3);
        Check.same("row is set", rules.rule(2, 5), 4);
    }

    private static void laterStatementsWin() {
        NailRules rules = new NailRules();
        Check.reads(rules, "d end 5;d end 6;d end 4", 3);
        Check.same("the latest end", rules.rule(3, 3), 4);
    }

    private static void numbersHaveOneToFourDigits() {
        NailRules rules = new NailRules();
        Check.reads(rules, "n size 9999;n force 0001;n edge 0100;n end 10", 4);
        Check.same("9999", rules.rule(0, 0), 9999);
        Check.same("0001", rules.rule(0, 1), 1);
        Check.same("0100", rules.rule(0, 2), 100);
        Check.same("10", rules.rule(0, 3), 10);
    }

    private static void faultsOfShape() {
        NailRules rules = new NailRules();
        Check.reads(rules, "x size 1", -1);
        Check.reads(rules, "N size 1", -1);
        Check.reads(rules, " n size 1", -1);
        Check.reads(rules, ";", -1);
        Check.reads(rules, "n", -2);
        Check.reads(rules, "nsize 1", -2);
        Check.reads(rules, "n ", -3);
        Check.reads(rules, "n  size 1", -3);
        Check.reads(rules, "n size", -7);
        Check.reads(rules, "n size1", -7);
        Check.reads(rules, "n size ", -8);
        Check.reads(rules, "n size  1", -8);
        Check.reads(rules, "n size 1 ", -9);
        Check.reads(rules, "n size 1,s size 1", -9);
        Check.reads(rules, "n size 1;", -10);
        Check.reads(rules, "n size 1;;", -10);
        Check.reads(rules, "n size 1; s size 1", -10);
        Check.reads(rules, "n size 1;s", -11);
    }

    private static void faultsOfWords() {
        NailRules rules = new NailRules();
        Check.reads(rules, "n x", -3);
        Check.reads(rules, "n s", -4);
        Check.reads(rules, "n sx", -4);
        Check.reads(rules, "n si", -5);
        Check.reads(rules, "n sie", -5);
        Check.reads(rules, "n side", -7);
        Check.reads(rules, "n sides 1", -7);
        Check.reads(rules, "n e", -4);
        Check.reads(rules, "n ex", -4);
        Check.reads(rules, "n en", -5);
        Check.reads(rules, "n ene", -5);
        Check.reads(rules, "n edd", -5);
        Check.reads(rules, "n force", -8);
        Check.reads(rules, "n forks 1", -6);
        Check.reads(rules, "n ro", -5);
        Check.reads(rules, "n rows 1", -6);
        Check.reads(rules, "n thick 1", -6);
        Check.reads(rules, "n Size 1", -3);
        Check.reads(rules, "n end1", -6);
    }

    private static void faultsOfNumbers() {
        NailRules rules = new NailRules();
        Check.reads(rules, "n size 0", -8);
        Check.reads(rules, "n size 00", -8);
        Check.reads(rules, "n size 0000", -8);
        Check.reads(rules, "n size 0x", -8);
        Check.reads(rules, "n size 0;n size 2", -8);
        Check.reads(rules, "n size 00000", -8);
        Check.reads(rules, "n size 00001", -8);
        Check.reads(rules, "n size 12345", -12);
        Check.reads(rules, "n size 00012", -12);
        Check.reads(rules, "n size -1", -8);
        Check.reads(rules, "n size +1", -8);
        Check.reads(rules, "n size 1.5", -9);
        Check.reads(rules, "n size /", -8);
        Check.reads(rules, "n size :", -8);
        Check.reads(rules, "n size 1;s row 000", -16);
        Check.same("size 1 stands", rules.rule(0, 0), 1);
    }

    private static void sixteenStatementsAtMost() {
        StringBuilder text = new StringBuilder("n row 2");
        for (int i = 1; i < 16; i++) {
            text.append(";n row ").append(i % 9 + 1);
        }
        NailRules rules = new NailRules();
        Check.reads(rules, text.toString(), 16);
        Check.same("the sixteenth", rules.rule(0, 5), 7);
        NailRules more = new NailRules();
        Check.reads(more, text + ";d row 9", -128);
        Check.same("the sixteenth before the fault", more.rule(0, 5), 7);
        Check.same("nothing of the seventeenth", more.rule(3, 5), 1);
        Check.reads(more, text + ";", -128);
    }

    private static void onlyWhatIsBehindAFaultIsNotSet() {
        NailRules rules = new NailRules();
        Check.reads(rules, "n size 30;s end 4;b row x;d thin 5", -25);
        Check.same("the first is set", rules.rule(0, 0), 30);
        Check.same("the second is set", rules.rule(1, 3), 4);
        Check.same("the faulty one is not", rules.rule(2, 5), 1);
        Check.same("the one behind is not", rules.rule(3, 6), 1);
        Check.reads(rules, "n size 40;n size 0", -18);
        Check.same("0 is not set", rules.rule(0, 0), 40);
        Check.reads(rules, "n size 50x", -10);
        Check.same("a whole statement before the fault is set", rules.rule(0, 0), 50);
    }

    private static void ruleRefusesWhatIsNotThere() {
        NailRules rules = new NailRules();
        int[] wrong = {-1, 7, Integer.MIN_VALUE, Integer.MAX_VALUE};
        for (int bad : wrong) {
            Check.fails("rule(" + bad + ", 0)", Check.INDEX, () -> rules.rule(bad, 0));
            Check.fails("rule(0, " + bad + ")", Check.INDEX, () -> rules.rule(0, bad));
        }
        Check.fails("rule(4, 0)", Check.INDEX, () -> rules.rule(4, 0));
        Check.fails("rule(-1, 7)", Check.INDEX, () -> rules.rule(-1, 7));
        Check.fails("rule(1, -1)", Check.INDEX, () -> rules.rule(1, -1));
    }
}
