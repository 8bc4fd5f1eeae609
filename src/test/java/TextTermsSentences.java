/** "Input text" of the "Terms": what the buffer takes, and at which character a text goes wrong. */
final class TextTermsSentences extends SentenceTests {
    private static final String LETTERS = "abcdeABCDE";
    private static final String ITEMS = LETTERS + "([";
    private static final String FIGURES = "23456789";

    TextTermsSentences(Sentences sentences, Checks checks) {
        super(sentences, checks);
    }

    @Override
    void all() {
        under("Input text");
        holds("The buffer has at most 60 characters.", this::sixtyCharacters);
        holds("A word as a text is one or more items: ", this::oneOrMoreItems);
        holds("a letter \"a\" to \"e\" (the keys 0 to 4 are turned), or \"A\" to \"E\" (turned back)", this::letters);
        holds("or \"(\", a word as a text, \")\" and a figure, 2 to 9 (so often that word)", this::repeats);
        holds("or \"[\", a word as a text, \",\", a word as a text, and \"]\" (the pair of both).", this::pairs);
        holds("At most 4 brackets are open at a time; a fifth one is a syntax error.", this::fourBrackets);
        holds("The buffer is read from left to right; a character is a syntax error if no word as a text, of any length, "
            + "begins with the characters before it and this character.", this::everyNextCharacter);
    }

    private void sixtyCharacters() {
        PairedTumblers x = new PairedTumblers();
        for (int n = 1; n <= 60; n++) {
            same("append()", n, x.append('a'));
        }
        refused("append() to 60", STATE, () -> with("b".repeat(60)), y -> y.append('a'));
        same("a word of 60 characters", 60, x.word());
        same("room again", 1, x.append('a'));
    }

    private void isWord(String text, int turns) {
        PairedTumblers x = with(text);
        same("turns of " + text, turns, x.ofWord(0));
        same("firstError() of " + text, text.length(), x.firstError());
        same("word() of " + text, turns, x.word());
    }

    private void isNoWord(String text) {
        refused("ofWord(0) of " + text, ARGUMENT, () -> with(text), x -> x.ofWord(0));
        refused("word() of " + text, ARGUMENT, () -> with(text), PairedTumblers::word);
    }

    private void oneOrMoreItems() {
        isNoWord("");
        isWord("a", 1);
        isWord("a(b)2[c,d]E", 8);
        isNoWord("()2");
        isNoWord("[,a]");
        isNoWord("[a,]");
        isNoWord("[,]");
        isNoWord("([a,b]()2)2");
    }

    private void letters() {
        for (int k = 0; k < 5; k++) {
            PairedTumblers turned = new PairedTumblers();
            turned.turn(k);
            letterIs((char) ('a' + k), k, 1, turned);
            PairedTumblers back = new PairedTumblers();
            back.back(k);
            letterIs((char) ('A' + k), k, -1, back);
        }
        for (char beside : "`f@Fg".toCharArray()) {
            isNoWord("" + beside);
            isNoWord("a" + beside);
        }
    }

    private void letterIs(char letter, int key, int sum, PairedTumblers due) {
        PairedTumblers x = with("" + letter);
        same("sum of the turns of " + letter, sum, x.ofWord(4));
        same("word() of " + letter, 1, x.word());
        stands("the letter " + letter, x, discs(due), notches(due));
        same("uses of the key of " + letter, 1, x.key(key, 5));
    }

    private void repeats() {
        for (int n = 2; n <= 9; n++) {
            isWord("(aB)" + n, 2 * n);
        }
        isWord("((a)2)2", 4);
        for (char beside : "01:/a)(".toCharArray()) {
            isNoWord("(a)" + beside);
        }
        isNoWord("(a)");
        isNoWord("(a");
        isNoWord("a)2");
        isNoWord("(a)10");
        isNoWord("(a,b)2");
        isNoWord("(a]2");
    }

    private void pairs() {
        isWord("[a,b]", 4);
        isWord("[ab,c]", 6);
        isWord("[(a)2,[b,c]]", 12);
        isNoWord("[a]");
        isNoWord("[a");
        isNoWord("[a,");
        isNoWord("[a,b");
        isNoWord("a,b");
        isNoWord("a,b]");
        isNoWord("[a,]");
        isNoWord("[,b]");
        isNoWord("[a,b,c]");
        isNoWord("[a,b)2");
        isNoWord("[a)2");
        isNoWord("[a,b]2");
    }

    private void fourBrackets() {
        isWord("((((a)2)2)2)2", 16);
        isWord("[[[[a,b],b],b],b]", 46);
        isWord("([([a,b])2,c])2", 36);
        isWord("((((a)2(b)2)2((c)2)2)2(a)2)2", 2 * (2 * (2 * 4 + 4) + 2));
        for (String four : new String[] {"((((", "[[[[", "([([", "a(b[c(d[", "[a,[a,[a,[a,", "(((a)2(("}) {
            for (char fifth : "([".toCharArray()) {
                PairedTumblers x = with(four + fifth + "a");
                same("firstError() of " + four + fifth + "a", four.length(), x.firstError());
                isNoWord(four + fifth);
            }
        }
        same("a fifth one in place of one that is closed", 20, with("((((a)2(a)2)2(a)2)2(").firstError());
    }

    /** The characters that may follow are told for each way to begin; of 33 to 126 all others are errors. */
    private void everyNextCharacter() {
        mayFollow("", ITEMS);
        mayFollow("a", ITEMS);
        mayFollow("(", ITEMS);
        mayFollow("(a", ITEMS + ")");
        mayFollow("(a)", FIGURES);
        mayFollow("(a)2", ITEMS);
        mayFollow("a(", ITEMS);
        mayFollow("a[", ITEMS);
        mayFollow("(a[", ITEMS);
        mayFollow("[a(", ITEMS);
        mayFollow("[a,b(", ITEMS);
        mayFollow("[a,b[", ITEMS);
        mayFollow("[", ITEMS);
        mayFollow("[a", ITEMS + ",");
        mayFollow("[a,", ITEMS);
        mayFollow("[a,b", ITEMS + "]");
        mayFollow("[a,b]", ITEMS);
        mayFollow("([a,b]", ITEMS + ")");
        mayFollow("[(a)2", ITEMS + ",");
        mayFollow("[a,(a)2", ITEMS + "]");
        mayFollow("[[a,b]", ITEMS + ",");
        mayFollow("((((", LETTERS);
        mayFollow("((((a", LETTERS + ")");
        mayFollow("((((a)", FIGURES);
        mayFollow("((((a)3", ITEMS + ")");
        mayFollow("[[[[a", LETTERS + ",");
        mayFollow("[[[[a,", LETTERS);
        mayFollow("[[[[a,b", LETTERS + "]");
        mayFollow("[[[[a,b]", ITEMS + ",");
        errorsBehindOthers();
        wordsOfAnyLength();
    }

    private void mayFollow(String begun, String good) {
        for (char next = 33; next <= 126; next++) {
            int due = begun.length() + (good.indexOf(next) >= 0 ? 1 : 0);
            same("firstError() of " + begun + next, due, with(begun + next).firstError());
        }
    }

    private void errorsBehindOthers() {
        same("the first of several errors", 1, with("a!)]?").firstError());
        same("what is right behind an error", 0, with(")(a)2").firstError());
        same("an error at the last of 60", 59, with("a".repeat(59) + "!").firstError());
        same("no error in 60", 60, with("a".repeat(60)).firstError());
    }

    /** The word itself need not have room in the buffer. */
    private void wordsOfAnyLength() {
        same("four open brackets at the end", 60, with("a".repeat(56) + "([([").firstError());
        same("a figure is missing at the end", 60, with("(" + "a".repeat(58) + ")").firstError());
        same("a comma is missing at the end", 60, with("[" + "a".repeat(59)).firstError());
        same("text of more than 9999 turns", 18, with("((((abcde)9)9)9)9a").firstError());
    }
}
