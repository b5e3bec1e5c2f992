/** Objects with something in them, and all that can be seen of an object. */
final class State {
    private static final String RULES = "n size 10;n end 5;n edge 3;n side 4;n row 6;n force 3;n thin 7;d size 60";
    private static final int[] PLATES = {100000, 32500, 32000, 700, 100, 1};

    private State() {
    }

    /** Something of everything, and room for more of it. */
    static NailRules busy() {
        NailRules rules = untold();
        Check.tell(rules, "s size 4;b row 20");
        return rules;
    }

    /** Something of everything but of a text. */
    static NailRules untold() {
        NailRules rules = Check.with(RULES);
        rules.set(0, 70);
        rules.set(1, 5);
        Check.yes("a pattern of five", rules.pattern(0, 180, 200, 5));
        rules.place(100, 100);
        rules.place(600, 300);
        rules.member(0, 0, 300, 400, 40);
        rules.member(50, 100, 50, -100, 7);
        return rules;
    }

    /** As many places and members as there may be. */
    static NailRules full() {
        NailRules rules = busy();
        for (int i = 3; i <= 32; i++) {
            Check.same("place " + i, rules.place(i * 1000, i * 1000), i);
        }
        for (int i = 2; i < 6; i++) {
            Check.same("member " + i, rules.member(0, i * 10, 500, i * 10, 5), i);
        }
        return rules;
    }

    /** A text that has no room for a character more. */
    static NailRules fullText() {
        NailRules rules = new NailRules();
        Check.tell(rules, longestText());
        return rules;
    }

    /** 200 characters and 16 statements: both as many as there may be. */
    static String longestText() {
        StringBuilder text = new StringBuilder();
        for (int i = 0; i < 9; i++) {
            text.append("n force 111").append(i).append(';');
        }
        for (int i = 0; i < 6; i++) {
            text.append("s side 222").append(i).append(';');
        }
        return text.append("b size 9876").toString();
    }

    /** Uses the object up: its text is read, and a place and a member more are asked for at the end. */
    static String seen(NailRules rules) {
        StringBuilder seen = new StringBuilder();
        seen.append(rulesOf(rules)).append(" held");
        for (int kind = 0; kind < 4; kind++) {
            seen.append(' ').append(rules.holds(kind, 1000, 1000, 0, 0));
        }
        seen.append(" together ").append(rules.together(2, 100));
        seen.append(" pattern").append(patternOf(rules)).append(" places").append(placesOf(rules));
        seen.append(" members").append(membersOf(rules));
        seen.append(" text ").append(rules.read()).append(rulesOf(rules));
        seen.append(" next ").append(nextPlace(rules)).append(' ').append(nextMember(rules));
        return seen.toString();
    }

    private static String rulesOf(NailRules rules) {
        StringBuilder seen = new StringBuilder(" rules");
        for (int kind = 0; kind < 4; kind++) {
            for (int what = 0; what < 7; what++) {
                seen.append(' ').append(rules.rule(kind, what));
            }
        }
        return seen.toString();
    }

    private static String patternOf(NailRules rules) {
        StringBuilder seen = new StringBuilder();
        for (int k = 0; k < 100; k++) {
            try {
                seen.append(' ').append(rules.at(k, 0)).append(',').append(rules.at(k, 1));
            } catch (IllegalStateException | IndexOutOfBoundsException e) {
                return seen.append(' ').append(e.getClass().getSimpleName()).toString();
            }
        }
        return seen.toString();
    }

    private static String placesOf(NailRules rules) {
        StringBuilder seen = new StringBuilder();
        for (int plate : PLATES) {
            seen.append(' ').append(rules.keeps(1, plate, 100000));
            seen.append(' ').append(rules.keeps(1, 100000, plate));
            seen.append(' ').append(rules.keeps(3, plate, plate));
        }
        return seen.toString();
    }

    private static String membersOf(NailRules rules) {
        StringBuilder seen = new StringBuilder();
        for (int member = 0; member < 6; member++) {
            try {
                seen.append(' ').append(rules.teeth(member, -100, -150, 500, 500, 10));
            } catch (IndexOutOfBoundsException e) {
                return seen.append(" then none").toString();
            }
        }
        return seen.toString();
    }

    private static String nextPlace(NailRules rules) {
        try {
            return "place " + rules.place(5000, 5000);
        } catch (IllegalStateException e) {
            return "no place";
        }
    }

    private static String nextMember(NailRules rules) {
        try {
            return "member " + rules.member(0, 0, 1, 1, 1);
        } catch (IllegalStateException e) {
            return "no member";
        }
    }
}
