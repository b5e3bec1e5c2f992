import java.util.List;

/**
 * Promises 1 to 4: a new object, unit, read, rule. Above a test stand the document's words whose edge it looks
 * at: the last input that they allow, and the first that they don't.
 */
public final class TextTest {
    private static final String KINDS = "nsbd";
    private static final List<String> WORDS = List.of("size", "force", "edge", "end", "side", "row", "thin");

    public static void main(String[] args) {
        newObject();
        unit();
        statements();
        words();
        numbers();
        faults();
        read();
        rule();
        Check.end();
    }

    private static void newObject() {
        newObjectHasOnes();
        newObjectHasWetAndLess();
        newObjectHasNoText();
        newObjectHasNoPlaces();
        newObjectHasNoMembers();
        newObjectHasNoPattern();
        newObjectSharesNothing();
        objectServesForAllItsCalls();
    }

    /** "Each KIND has 1 for all seven of its numbers". */
    private static void newObjectHasOnes() {
        NailRules rules = new NailRules();
        for (int kind = 0; kind < 4; kind++) {
            for (int what = 0; what < 7; what++) {
                Check.same("rule(" + kind + ", " + what + ")", rules.rule(kind, what), 1);
            }
        }
        Check.same("NONE", NailRules.NONE, -1);
    }

    /** "WET is 100, LESS 2". */
    private static void newObjectHasWetAndLess() {
        NailRules rules = new NailRules();
        Check.same("holds with WET 100", rules.holds(0, 100, 100, 0, 0), 4);
        Check.same("together with LESS 2", rules.together(2, 100), 196);
    }

    /** "no text". */
    private static void newObjectHasNoText() {
        Check.same("read of nothing", new NailRules().read(), -1);
    }

    /** "no PLACES". */
    private static void newObjectHasNoPlaces() {
        NailRules rules = new NailRules();
        for (int kind = 0; kind < 4; kind++) {
            Check.same("keeps on the smallest plate, kind " + kind, rules.keeps(kind, 1, 1), 0);
        }
        Check.same("first place", rules.place(0, 0), 1);
    }

    /** "no MEMBERS". */
    private static void newObjectHasNoMembers() {
        NailRules rules = new NailRules();
        Check.fails("in without member", Check.INDEX, () -> rules.in(0, 0, 0));
        Check.fails("teeth without member", Check.INDEX, () -> rules.teeth(0, 0, 0, 0, 0, 10));
        Check.same("first member", rules.member(0, 0, 1, 0, 1), 0);
    }

    /** "no PATTERN". */
    private static void newObjectHasNoPattern() {
        NailRules rules = new NailRules();
        Check.fails("at without pattern", Check.STATE, () -> rules.at(0, 0));
    }

    private static void newObjectSharesNothing() {
        String fresh = State.seen(new NailRules());
        State.full();
        Check.same("a new object behind a full one", State.seen(new NailRules()), fresh);
    }

    /** "An object is used for at most 512 calls after it has been made". */
    private static void objectServesForAllItsCalls() {
        NailRules rules = new NailRules();
        for (int call = 1; call <= 511 - 8; call++) {
            Check.same("call " + call, rules.keeps(call % 4, 1, 1), 0);
        }
        Check.tell(rules, "d row 42");
        Check.same("the 512th call", rules.read(), 1);

        NailRules told = new NailRules();
        Check.tell(told, State.longestText());
        for (int call = 201; call <= 510; call++) {
            Check.no("call " + call, told.unit('x'));
        }
        Check.same("the 511th call", told.read(), 16);
        Check.same("the 512th call", told.rule(2, 0), 9876);
    }

    private static void unit() {
        unitTakesPrintableCharacters();
        unitRefusesOthers();
        unitHasRoomForTwoHundred();
        refusedCharactersAreNotInTheText();
        unitHasRoomAgainBehindRead();
    }

    /** "it is 32 .. 126". */
    private static void unitTakesPrintableCharacters() {
        NailRules rules = new NailRules();
        for (int u = 32; u <= 126; u++) {
            Check.yes("unit(" + u + ")", rules.unit(u));
        }
    }

    /** "it is 32 .. 126": what is not, also what would be it if it were cut to a character or a byte. */
    private static void unitRefusesOthers() {
        NailRules rules = new NailRules();
        int[] refused = {31, 127, 0, -1, 128, 255, 256 + 'n', 65536 + 'n', -65536 + 'n',
            Integer.MIN_VALUE, Integer.MIN_VALUE + 'n', Integer.MAX_VALUE};
        for (int u : refused) {
            Check.no("unit(" + u + ")", rules.unit(u));
        }
        Check.same("none of them is in the text", rules.read(), -1);
    }

    /** "A TEXT, at most 200 characters", "whether there was room". */
    private static void unitHasRoomForTwoHundred() {
        NailRules rules = new NailRules();
        for (int i = 1; i <= 200; i++) {
            Check.yes("character " + i, rules.unit('n'));
        }
        Check.no("character 201", rules.unit('n'));
        Check.no("character 201 again", rules.unit('n'));
        NailRules right = State.fullText();
        Check.same("a text of 200", right.read(), 16);
        Check.same("its last statement", right.rule(2, 0), 9876);
    }

    /** What answers false changes nothing: the text goes on as if it had not been told. */
    private static void refusedCharactersAreNotInTheText() {
        Check.leavesAll("unit(31)", State::busy, rules -> rules.unit(31));
        Check.leavesAll("unit(127)", State::busy, rules -> rules.unit(127));
        Check.leavesAll("unit('5') without room", State::fullText, rules -> rules.unit('5'));
        Check.leavesAll("unit(';') without room", State::fullText, rules -> rules.unit(';'));
        Check.leavesAll("unit(127) without room", State::fullText, rules -> rules.unit(127));
        NailRules rules = new NailRules();
        Check.tell(rules, "n size 1");
        Check.no("a wrong one amid a number", rules.unit(10));
        Check.reads(rules, "2", 1);
        Check.same("the number", rules.rule(0, 0), 12);
    }

    /** "The text (which is empty then)": all its room is there again. */
    private static void unitHasRoomAgainBehindRead() {
        NailRules rules = State.fullText();
        Check.same("a right text", rules.read(), 16);
        Check.reads(rules, State.longestText(), 16);
        NailRules faulty = new NailRules();
        for (int i = 1; i <= 200; i++) {
            faulty.unit('n');
        }
        Check.no("no room", faulty.unit('n'));
        Check.same("a faulty text", faulty.read(), -2);
        Check.reads(faulty, State.longestText(), 16);
    }

    private static void statements() {
        statementsAreOneToSixteen();
        semicolonsStandBetween();
        kindsAreFourLetters();
        spacesAreSingle();
        statementsSetTheirKindAndWord();
        laterStatementsWin();
    }

    private static String rows(int statements) {
        StringBuilder text = new StringBuilder("n row 2");
        for (int i = 1; i < statements; i++) {
            text.append(";n row ").append(i % 9 + 1);
        }
        return text.toString();
    }

    /** "has 1 to 16 STATEMENTS". */
    private static void statementsAreOneToSixteen() {
        Check.reads("", -1);
        Check.reads(rows(1), 1);
        Check.reads(rows(15), 15);
        NailRules rules = new NailRules();
        Check.reads(rules, rows(16), 16);
        Check.same("the sixteenth", rules.rule(0, 5), 7);
        // The sixteenth ends at 127: behind it even a semicolon can't be there.
        NailRules more = new NailRules();
        Check.reads(more, rows(16) + ";d row 9", -128);
        Check.same("the sixteenth before the fault", more.rule(0, 5), 7);
        Check.same("nothing of the seventeenth", more.rule(3, 5), 1);
        Check.reads(rows(16) + ";", -128);
        Check.reads(rows(16) + " ", -128);
        Check.reads(rows(15) + ";", -121);
    }

    /** "with ; (59) between them". */
    private static void semicolonsStandBetween() {
        Check.reads("n size 1;s size 1", 2);
        Check.reads(";n size 1", -1);
        Check.reads("n size 1;", -10);
        Check.reads("n size 1;;s size 1", -10);
        Check.reads("n size 1:s size 1", -9);
        Check.reads("n size 1<s size 1", -9);
        Check.reads("n size 1,s size 1", -9);
        Check.reads("n size 1 s size 1", -9);
        Check.reads("n size 1; s size 1", -10);
        Check.reads("n size 1 ;s size 1", -9);
    }

    /** "KINDS n (110), s (115), b (98), d (100)". */
    private static void kindsAreFourLetters() {
        for (int u = 32; u <= 126; u++) {
            boolean kind = u == 110 || u == 115 || u == 98 || u == 100;
            Check.reads((char) u + " row 3", kind ? 1 : -1);
        }
    }

    /** "each a KIND, a space (32), and a WORD .. then a space". */
    private static void spacesAreSingle() {
        Check.reads(" n size 1", -1);
        Check.reads("nsize 1", -2);
        Check.reads("n!size 1", -2);
        Check.reads("n  size 1", -3);
        Check.reads("n size1", -7);
        Check.reads("n size!1", -7);
        Check.reads("n size  1", -8);
        Check.reads("n size 1 ", -9);
    }

    /** "A statement sets what its WORD says of its KIND". */
    private static void statementsSetTheirKindAndWord() {
        for (int kind = 0; kind < 4; kind++) {
            for (int what = 0; what < 7; what++) {
                NailRules rules = Check.with(KINDS.charAt(kind) + " " + WORDS.get(what) + " 23");
                for (int k = 0; k < 4; k++) {
                    for (int w = 0; w < 7; w++) {
                        Check.same("rule(" + k + ", " + w + ")", rules.rule(k, w), k == kind && w == what ? 23 : 1);
                    }
                }
            }
        }
    }

    /** "read from the first one on". */
    private static void laterStatementsWin() {
        NailRules rules = new NailRules();
        Check.reads(rules, "d end 5;d end 6;d end 4", 3);
        Check.same("the latest end", rules.rule(3, 3), 4);
    }

    private static void words() {
        wordsAreWhole();
        wordsThatBeginAlike();
        wordsAreSmall();
    }

    /** "a WORD: size, force .. or edge, end, side, row, thin": each breaks off after each of its letters. */
    private static void wordsAreWhole() {
        for (String word : WORDS) {
            for (int letters = 0; letters < word.length(); letters++) {
                String begun = "b " + word.substring(0, letters);
                Check.reads(begun, -1 - begun.length());
                Check.reads(begun + "~ 5", -1 - begun.length());
                Check.reads(begun + " 5", -1 - begun.length());
            }
            Check.reads("b " + word + "s 5", -3 - word.length());
            Check.reads("b " + word + " 5", 1);
        }
    }

    /** The fault is where no word is left that begins so, not where the first such word breaks off. */
    private static void wordsThatBeginAlike() {
        Check.reads("n sx", -4);
        Check.reads("n sie", -5);
        Check.reads("n sizd 1", -6);
        Check.reads("n sidz 1", -6);
        Check.reads("n ex", -4);
        Check.reads("n ene", -5);
        Check.reads("n edd", -5);
        Check.reads("n ende 1", -6);
        Check.reads("n endge 1", -6);
        Check.reads("n thick 1", -6);
        Check.reads("n rod 1", -5);
    }

    private static void wordsAreSmall() {
        Check.reads("n Size 1", -3);
        Check.reads("n sizE 1", -6);
        Check.reads("n ROW 1", -3);
    }

    private static void numbers() {
        numbersHaveOneToFourDigits();
        numbersAreOneAtLeast();
        digitsAreTen();
    }

    /** "a NUMBER of one to four digits". */
    private static void numbersHaveOneToFourDigits() {
        int[] right = {1, 9, 10, 99, 100, 999, 1000, 9999};
        for (int number : right) {
            NailRules rules = new NailRules();
            Check.reads(rules, "n size " + number, 1);
            Check.same("size", rules.rule(0, 0), number);
        }
        NailRules padded = new NailRules();
        Check.reads(padded, "n size 01;n force 0001;n edge 0100;n end 010", 4);
        Check.same("01", padded.rule(0, 0), 1);
        Check.same("0001", padded.rule(0, 1), 1);
        Check.same("0100", padded.rule(0, 2), 100);
        Check.same("010", padded.rule(0, 3), 10);
        Check.reads("n size ", -8);
        Check.reads("n size ;", -8);
        Check.reads("n size 10000", -12);
        Check.reads("n size 99999", -12);
        Check.reads("n size 00012", -12);
        Check.reads("n size 4294967297", -12);
    }

    /** "1 at least", "of a NUMBER that is 0 its first character". */
    private static void numbersAreOneAtLeast() {
        Check.reads("n size 1", 1);
        Check.reads("n size 0", -8);
        Check.reads("n size 00", -8);
        Check.reads("n size 000", -8);
        Check.reads("n size 0000", -8);
        Check.reads("n size 0;n size 2", -8);
        Check.reads("n size 0x", -8);
        Check.reads("n size 1;s row 000", -16);
        // Of both faults the one that is first: the number of four digits is 0.
        Check.reads("n size 00000", -8);
        Check.reads("n size 00001", -8);
        NailRules rules = Check.with("n size 7");
        Check.reads(rules, "n size 0", -8);
        Check.same("0 is not set", rules.rule(0, 0), 7);
    }

    /** The characters before 0 and behind 9, and what else a number might begin with. */
    private static void digitsAreTen() {
        Check.reads("n size /", -8);
        Check.reads("n size :", -8);
        Check.reads("n size 1/", -9);
        Check.reads("n size 1:", -9);
        Check.reads("n size -1", -8);
        Check.reads("n size +1", -8);
        Check.reads("n size 1.5", -9);
        Check.reads("n size a", -8);
    }

    private static void faults() {
        faultIsTheFirstWrongCharacter();
        faultIsTheEndIfMoreMustCome();
        faultAtTheEndOfAFullText();
        nothingIsSetBehindAFault();
        whatStandsBeforeAFaultIsSet();
    }

    /** "the first character that can't be there". */
    private static void faultIsTheFirstWrongCharacter() {
        String right = "n size 30;d force 4";
        for (int i = 0; i < right.length(); i++) {
            String wrong = right.substring(0, i) + '~' + right.substring(i + 1);
            Check.reads(wrong, -1 - i);
            for (int later = i + 1; later < right.length(); later++) {
                Check.reads(wrong.substring(0, later) + '~' + wrong.substring(later + 1), -1 - i);
            }
        }
        Check.reads(right + "~", -1 - right.length());
    }

    /** "or the text's end, if more must come". */
    private static void faultIsTheEndIfMoreMustCome() {
        String right = "n size 30;d force 4";
        for (int length = 0; length < right.length(); length++) {
            boolean whole = length == "n size 3".length() || length == "n size 30".length();
            Check.reads(right.substring(0, length), whole ? 1 : -1 - length);
        }
        Check.reads(right, 2);
    }

    /** The farthest place that a fault can have: behind the 200th character. */
    private static void faultAtTheEndOfAFullText() {
        NailRules rules = new NailRules();
        StringBuilder text = new StringBuilder();
        for (int i = 0; i < 15; i++) {
            text.append("n force 1111;");
        }
        // 195 characters so far; "s row" stops where a space must come.
        Check.tell(rules, text.append("s row").toString());
        Check.no("no room for the space", rules.unit(' '));
        Check.same("read of 200", rules.read(), -201);
    }

    /** "Behind a FAULT nothing is set". */
    private static void nothingIsSetBehindAFault() {
        NailRules rules = new NailRules();
        Check.reads(rules, "b row x;d thin 5;n size 6", -7);
        Check.same("the faulty one is not", rules.rule(2, 5), 1);
        Check.same("the next one is not", rules.rule(3, 6), 1);
        Check.same("the last one is not", rules.rule(0, 0), 1);
        Check.reads(rules, "s end 0;d thin 5", -7);
        Check.same("a number of 0 is not", rules.rule(1, 3), 1);
        Check.same("nor what is behind it", rules.rule(3, 6), 1);
        Check.reads(rules, "s end 4;;d thin 5", -9);
        Check.same("nor what is behind a semicolon too many", rules.rule(3, 6), 1);
    }

    /** "Behind a FAULT nothing is set": what is whole before it, is. */
    private static void whatStandsBeforeAFaultIsSet() {
        NailRules rules = new NailRules();
        Check.reads(rules, "n size 30;s end 4;b row x", -25);
        Check.same("the first is set", rules.rule(0, 0), 30);
        Check.same("the second is set", rules.rule(1, 3), 4);
        Check.reads(rules, "n size 40;n size 0", -18);
        Check.same("the one before a 0", rules.rule(0, 0), 40);
        Check.reads(rules, "n size 50x", -10);
        Check.same("the one that the fault follows", rules.rule(0, 0), 50);
        Check.reads(rules, "n size 60;", -11);
        Check.same("the one before a text that ends too early", rules.rule(0, 0), 60);
        Check.reads(rules, "n size 12345", -12);
        Check.same("four digits before a fifth", rules.rule(0, 0), 1234);
    }

    private static void read() {
        readEmptiesTheText();
        readLeavesTheRest();
    }

    /** "The text (which is empty then)". */
    private static void readEmptiesTheText() {
        NailRules rules = new NailRules();
        Check.reads(rules, "n size 3", 1);
        Check.same("read again", rules.read(), -1);
        Check.reads(rules, "n size 4;n size x", -17);
        Check.same("read again behind a fault", rules.read(), -1);
        Check.reads(rules, "s", -2);
        // Were the s still there, this would be a right text.
        Check.reads(rules, " row 4", -1);
        Check.reads(rules, "b row 4", 1);
        Check.same("size is as before", rules.rule(0, 0), 4);
        Check.same("row is set", rules.rule(2, 5), 4);
    }

    /** "what it says is set": and nothing else. */
    private static void readLeavesTheRest() {
        Check.leavesAll("read of nothing", State::untold, NailRules::read);
        Check.leavesAll("read of a fault", State::untold, rules -> Check.reads(rules, "x", -1));
        Check.leavesAll("read of what is set already", State::untold, rules -> Check.reads(rules, "n size 10", 1));
    }

    private static void rule() {
        ruleTellsSevenOfFour();
        ruleRefuses();
    }

    /** "size (what = 0), force (1), edge (2), end (3), side (4), row (5), thin (6)". */
    private static void ruleTellsSevenOfFour() {
        NailRules rules = new NailRules();
        for (int kind = 0; kind < 4; kind++) {
            StringBuilder text = new StringBuilder();
            for (int what = 0; what < 7; what++) {
                text.append(what == 0 ? "" : ";").append(KINDS.charAt(kind)).append(' ')
                    .append(WORDS.get(what)).append(' ').append(10 * kind + what + 2);
            }
            Check.reads(rules, text.toString(), 7);
        }
        for (int kind = 0; kind < 4; kind++) {
            for (int what = 0; what < 7; what++) {
                Check.same("rule(" + kind + ", " + what + ")", rules.rule(kind, what), 10 * kind + what + 2);
            }
        }
    }

    /** "IndexOutOfBoundsException: also of what". */
    private static void ruleRefuses() {
        for (int bad : new int[] {-1, 4, 7, Integer.MIN_VALUE, Integer.MAX_VALUE}) {
            Check.refuses("rule(" + bad + ", 0)", Check.INDEX, rules -> rules.rule(bad, 0));
        }
        for (int bad : new int[] {-1, 7, 28, Integer.MIN_VALUE, Integer.MAX_VALUE}) {
            Check.refuses("rule(0, " + bad + ")", Check.INDEX, rules -> rules.rule(0, bad));
            Check.refuses("rule(3, " + bad + ")", Check.INDEX, rules -> rules.rule(3, bad));
        }
        // In a row that holds all kinds, one behind the other, both would be another one's number.
        Check.refuses("rule(-1, 7)", Check.INDEX, rules -> rules.rule(-1, 7));
        Check.refuses("rule(1, -1)", Check.INDEX, rules -> rules.rule(1, -1));
    }
}
