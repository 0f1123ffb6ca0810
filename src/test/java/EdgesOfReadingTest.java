/**
 * "THE PLACE is that of the first character with which, after those before, nothing right
 * could begin, or the length, if just the end is wrong. (At depth 5 ( is such.)"
 *
 * What is right is written once more in Grammar, as a pattern.
 */
public final class EdgesOfReadingTest {
    private static final String[] CLAUSES = {
        "a", "a(1)", "a(B,12,c)", "a(b(c(d(e))))", "a(b(c(d(E,12,f))),g)", "a:1<2", "a:B=c,12~D",
        "a:f(X)<g(b(c(d(12))))", "a|b", "a|b^0,c(D)^3", "a|B=12,c(1)=d", "a|B#1+23,C#D-e,F#g(1)*2",
        "a(X):X<12|b(X)^2,c=d,E#X+1,f", "a:b(c(d(e(f))))=1|A=b(c(d(e(f))))"
    };
    private static final String[] QUESTIONS = {
        "a", "a^2", "a(1,B,12)^3,c", "A=B", "12=a,b(1)=C", "A#1+2", "A#12-B,C#d(1)*e",
        "a,b,c^1,D=1", "a(b(c(d(e,12,F)),1)),g", "A=b(c(d(e(f))))", "A#b(c(d(e(1))))+b(c(d(e(2))))"
    };

    // A text takes nine calls at most, and an object is good for 512.
    private static final int TEXTS_FOR_AN_OBJECT = 50;
    private static Net reader;
    private static int texts = 0;

    // The same numbers each time, so that what is found can be found again.
    private static long seed = 20261116;

    public static void main(String[] args) {
        words();
        beginnings();
        otherCharacters();
        cutOut();
        anyTexts();
        atTheLastCharacter();
        Net.end();
    }

    private static String dueOf(Grammar grammar, String text) {
        return grammar.isRight(text) ? "right" : "bad at " + grammar.place(text);
    }

    private static void look(String text, boolean asked) {
        Net.due((asked ? "the QUESTION " : "the CLAUSE ") + text,
                dueOf(grammar(asked), text), answerTo(text, asked));
    }

    private static String answerTo(String text, boolean asked) {
        if (texts % TEXTS_FOR_AN_OBJECT == 0) {
            reader = new Net();
        }
        texts++;
        reader.text(text);
        if (Net.answerOf(() -> asked ? reader.net.ask() : reader.net.add()).equals(Net.BAD)) {
            return "bad at " + reader.net.count(0);
        }
        if (!asked) {
            reader.drop(0);
        }
        return "right";
    }

    private static void lookBothWays(String text) {
        look(text, false);
        look(text, true);
    }

    private static Grammar grammar(boolean asked) {
        return asked ? Grammar.QUESTION : Grammar.CLAUSE;
    }

    private static String[] texts(boolean asked) {
        return asked ? QUESTIONS : CLAUSES;
    }

    /** What the document says in words must be what the pattern says. */
    private static void words() {
        Net.due("( at depth 5", "bad at 9", dueOf(Grammar.CLAUSE, "a(b(c(d(e("));
        Net.due("just the end", "bad at 9", dueOf(Grammar.CLAUSE, "a(b(c(d(e"));
        Net.due("no text", "bad at 0", dueOf(Grammar.CLAUSE, ""));
        Net.due("no text", "bad at 0", dueOf(Grammar.QUESTION, ""));
        Net.due("a third digit", "bad at 2", dueOf(Grammar.QUESTION, "123=a"));
        Net.due("a fourth ARGUMENT", "bad at 7", dueOf(Grammar.CLAUSE, "a(1,2,3,4)"));
        for (boolean asked : new boolean[] {false, true}) {
            for (String text : texts(asked)) {
                Net.due(text, "right", dueOf(grammar(asked), text));
                look(text, asked);
            }
        }
    }

    /** Of each beginning of what is right just the end can be wrong. */
    private static void beginnings() {
        for (boolean asked : new boolean[] {false, true}) {
            for (String text : texts(asked)) {
                for (int size = 0; size < text.length(); size++) {
                    look(text.substring(0, size), asked);
                }
            }
        }
    }

    /** At each place each character, in place of the one there and before it. */
    private static void otherCharacters() {
        for (boolean asked : new boolean[] {false, true}) {
            for (String text : texts(asked)) {
                for (int at = 0; at <= text.length(); at++) {
                    for (char other = 33; other <= 126; other++) {
                        String before = text.substring(0, at) + other;
                        look(before + text.substring(at), asked);
                        if (at < text.length()) {
                            look(before + text.substring(at + 1), asked);
                        }
                    }
                }
            }
        }
    }

    private static void cutOut() {
        for (boolean asked : new boolean[] {false, true}) {
            for (String text : texts(asked)) {
                for (int at = 0; at < text.length(); at++) {
                    for (int size = 1; size <= 3 && at + size <= text.length(); size++) {
                        look(text.substring(0, at) + text.substring(at + size), asked);
                    }
                }
            }
        }
    }

    private static void anyTexts() {
        String characters = "aabcdAB01((()),,,==:|<~#+-*^23";
        for (int k = 0; k < 20000; k++) {
            StringBuilder text = new StringBuilder();
            for (int size = below(14); size > 0; size--) {
                text.append(characters.charAt(below(characters.length())));
            }
            lookBothWays(text.toString());
        }
    }

    private static int below(int bound) {
        seed = seed * 6364136223846793005L + 1442695040888963407L;
        return (int) ((seed >>> 33) % bound);
    }

    /** A whole text of 48: its last character is wrong, or just the end is. */
    private static void atTheLastCharacter() {
        String most = "a,".repeat(23) + "a";
        look(most, true);
        look(most + ",", true);
        look(most + "(", true);
        look(most + "^", true);
        look(most + "a", true);
        look("b|" + most.substring(2), false);
        look("b|" + most.substring(2) + "!", false);
        look("b|" + most.substring(2) + ",", false);
        Net.due("the end of 48", "bad at 48", Net.asQuestion(most + ","));
        Net.due("the last of 48", "bad at 47", Net.asQuestion(most + "a"));
    }
}
