import java.util.function.IntFunction;

/** The boundary cases of promises 10 to 16 and 32: the current word, and what is asked of languages with it. */
final class WordCases {
    private static final String FULL = "abcabcabcabc";

    private WordCases() {
    }

    static void run() {
        appendLetter();
        clearWord();
        wordLetter();
        accepts();
        size();
        minimize();
        quotientOfWord();
        takeDifference();
    }

    private static LanguageAtoms full() {
        return Bench.setWord(Bench.sample(), FULL);
    }

    private static void registerRefused(IntFunction<Bench.Call> calls) {
        for (int r : new int[] {-1, 3, Bench.MIN, Bench.MAX}) {
            Bench.refused("register " + r, Bench.INDEX, calls.apply(r));
        }
    }

    private static void appendLetter() {
        Bench.promise(10);
        Bench.test("Appends a letter to the current word.", () -> {
            LanguageAtoms x = Bench.sample();
            x.appendLetter(2);
            x.appendLetter(0);
            Bench.due("at the end", Bench.word(x), "abcca");
        });
        Bench.test("- `letter`: the letter, 0 to 2",
            () -> Bench.range("letter", 0, 2, Bench.INDEX, c -> x -> x.appendLetter(c)));
        Bench.test("Returns the new length of the word.", () -> {
            LanguageAtoms x = new LanguageAtoms();
            for (int length = 1; length <= 12; length++) {
                Bench.due("length", x.appendLetter(length % 3), length);
            }
            Bench.due("the twelve letters", Bench.word(x), "bcabcabcabca");
        });
        Bench.test("Throws `IndexOutOfBoundsException` if there is no such letter", () -> {
            for (int c : new int[] {-1, 3, Bench.MIN, Bench.MAX}) {
                Bench.refused("letter " + c, Bench.INDEX, x -> x.appendLetter(c));
                Bench.refused("letter " + c, Bench.INDEX, LanguageAtoms::new, x -> x.appendLetter(c));
                Bench.refused("a wrong letter and a full word", Bench.INDEX, WordCases::full, x -> x.appendLetter(c));
            }
        });
        Bench.test("Throws `IllegalStateException` if the word has 12 letters", () -> {
            Bench.taken("the twelfth letter", () -> Bench.setWord(Bench.sample(), "abcabcabcab"),
                x -> x.appendLetter(2));
            for (int letter = 0; letter < 3; letter++) {
                int c = letter;
                Bench.refused("the thirteenth letter", Bench.STATE, WordCases::full, x -> x.appendLetter(c));
            }
            LanguageAtoms x = full();
            Bench.answer(x, y -> y.appendLetter(0));
            Bench.answer(x, y -> y.appendLetter(0));
            Bench.due("the length behind two refused calls", x.clearWord(), 12);
            Bench.due("room again", x.appendLetter(1), 1);
        });
    }

    private static void clearWord() {
        Bench.promise(11);
        Bench.test("Makes the current word empty.", () -> {
            LanguageAtoms x = full();
            x.clearWord();
            Bench.due("no letter", Bench.answer(x, y -> y.wordLetter(0)), Bench.INDEX);
            Bench.due("the registers stay", Bench.all(x), "110 201 020* | 012* 111 210 | 100 100* | ");
            x.appendLetter(2);
            Bench.due("no old letters", Bench.word(x), "c");
        });
        Bench.test("Returns the length that it had.", () -> {
            for (int length = 0; length <= 12; length++) {
                LanguageAtoms x = Bench.setWord(new LanguageAtoms(), FULL.substring(0, length));
                Bench.due("length", x.clearWord(), length);
                Bench.due("then", x.clearWord(), 0);
            }
        });
    }

    private static void wordLetter() {
        Bench.promise(12);
        Bench.test("Returns a letter of the current word.", () -> {
            LanguageAtoms x = Bench.setWord(new LanguageAtoms(), "cab");
            Bench.due("letters", "" + x.wordLetter(0) + x.wordLetter(1) + x.wordLetter(2), "201");
        });
        Bench.test("- `position`: the position, from 0", () -> {
            for (int length = 1; length <= 12; length++) {
                String word = FULL.substring(0, length);
                Bench.range("position of " + length, 0, length - 1, Bench.INDEX,
                    () -> Bench.setWord(new LanguageAtoms(), word), p -> x -> x.wordLetter(p));
            }
        });
        Bench.test("Returns the letter.", () -> {
            LanguageAtoms x = full();
            Bench.due("the first", x.wordLetter(0), 0);
            Bench.due("the last", x.wordLetter(11), 2);
            Bench.due("the last but one", x.wordLetter(10), 1);
        });
        Bench.test("Throws `IndexOutOfBoundsException` if there is no such position", () -> {
            for (int p : new int[] {-1, 0, 1, 11, 12, Bench.MIN, Bench.MAX}) {
                Bench.refused("of the empty word", Bench.INDEX, LanguageAtoms::new, x -> x.wordLetter(p));
            }
            for (int p : new int[] {-1, 12, 13, Bench.MIN, Bench.MAX}) {
                Bench.refused("of the full word", Bench.INDEX, WordCases::full, x -> x.wordLetter(p));
            }
            LanguageAtoms x = full();
            x.clearWord();
            x.appendLetter(0);
            Bench.due("a letter that was", Bench.answer(x, y -> y.wordLetter(1)), Bench.INDEX);
        });
    }

    private static void accepts() {
        Bench.promise(13);
        Bench.test("Returns whether the current word is in the language of a register.", () -> {
            LanguageAtoms x = Bench.with(Bench.ONLY_EMPTY_WORD, Bench.EVERY, Bench.EMPTY);
            Bench.due("the empty word", "" + x.accepts(0) + x.accepts(1) + x.accepts(2), "truetruefalse");
            x.appendLetter(0);
            Bench.due("a", "" + x.accepts(0) + x.accepts(1) + x.accepts(2), "falsetruefalse");
        });
        Bench.test("- `register`: the register, 0 to 2", () -> Bench.registers(r -> x -> x.accepts(r)));
        Bench.test("Returns whether it is.", () -> {
            LanguageAtoms x = Bench.with(Bench.ENDS_WITH_A, Bench.STARTS_WITH_A, Bench.EVEN_LENGTH);
            Bench.setWord(x, "bbbbbbbbbbba");
            Bench.due("the twelfth letter counts", "" + x.accepts(0) + x.accepts(1) + x.accepts(2), "truefalsetrue");
            Bench.setWord(x, "abbbbbbbbbb");
            Bench.due("eleven letters", "" + x.accepts(0) + x.accepts(1) + x.accepts(2), "falsetruefalse");
            Bench.due("the word stays", Bench.word(x), "abbbbbbbbbb");
        });
        Bench.test("Throws `IndexOutOfBoundsException` if there is no such register",
            () -> registerRefused(r -> x -> x.accepts(r)));
    }

    private static void size() {
        Bench.promise(14);
        Bench.test("Returns the size of the language of a register.", () -> {
            LanguageAtoms x = Bench.with("111* 222 333* 444 555* 000", "021* 111* 333* 333", Bench.LENGTH_4);
            Bench.due("equal states", x.size(0), 2);
            // The letter b leads to state 2, which holds the empty word alone; c leads to 1, which holds all words.
            Bench.due("all states differ", x.size(1), 4);
            Bench.due("six", x.size(2), 6);
            Bench.due("the automaton stays", Bench.show(x, 0), "111* 222 333* 444 555* 000");
        });
        Bench.test("- `register`: the register, 0 to 2", () -> Bench.registers(r -> x -> x.size(r)));
        Bench.test("Returns the number of quotients, 1 to 6.", () -> {
            LanguageAtoms x = Bench.with("123 234 345 450 501 012", "123* 234* 345* 450* 501* 012*");
            Bench.due("six states and no final one", x.size(0), 1);
            Bench.due("six states, all final", x.size(1), 1);
            Bench.due("states that no word reaches", Bench.set(x, 2, "000 123* 234 345* 450 501*").size(2), 1);
            for (int states = 1; states <= 6; states++) {
                x.makeWitness(2, states);
                Bench.due("witness", x.size(2), states);
            }
            for (String language : new String[] {Bench.LENGTH_4, Bench.ALL_BUT_LENGTH_4}) {
                Bench.due("a long tail", Bench.set(x, 0, language).size(0), 6);
            }
        });
        Bench.test("Throws `IndexOutOfBoundsException` if there is no such register",
            () -> registerRefused(r -> x -> x.size(r)));
    }

    private static void minimize() {
        Bench.promise(15);
        Bench.test("Replaces an automaton by the minimal automaton of its language.", () -> {
            String[][] pairs = {{"123 234 345 450 501 012", Bench.EMPTY},
                {"123* 234* 345* 450* 501* 012*", Bench.EVERY},
                {"000 123* 234 345* 450 501*", Bench.EMPTY},
                {"543 111* 222 333* 444 555*", "121 111* 222"},
                {"200 111 200*", Bench.ENDS_WITH_A}, {"321 111 222* 333", "121 111 222*"},
                {"555* 000 000 000 000 000", Bench.EVEN_LENGTH}};
            for (String[] pair : pairs) {
                LanguageAtoms x = Bench.with(pair[0], pair[0], pair[0]);
                Bench.due("states", x.minimize(1), pair[1].split(" ").length);
                Bench.due("minimal", Bench.show(x, 1), pair[1]);
                Bench.due("the others stay", Bench.show(x, 0) + Bench.show(x, 2), pair[0] + pair[0]);
                Bench.due("again", x.minimize(1), pair[1].split(" ").length);
                Bench.due("minimal stays", Bench.show(x, 1), pair[1]);
            }
        });
        Bench.test("- `register`: the register, 0 to 2", () -> Bench.registers(r -> x -> x.minimize(r)));
        Bench.test("Returns the number of states.", () -> {
            LanguageAtoms x = Bench.with(Bench.LENGTH_4, "000 111 222 333 444 555*");
            Bench.due("the greatest", x.minimize(0), 6);
            Bench.due("stateCount", x.stateCount(0), 6);
            Bench.due("the least", x.minimize(1), 1);
            Bench.due("stateCount", x.stateCount(1), 1);
            Bench.due("a state that was", Bench.answer(x, y -> y.isFinal(1, 1)), Bench.INDEX);
        });
        Bench.test("Throws `IndexOutOfBoundsException` if there is no such register",
            () -> registerRefused(r -> x -> x.minimize(r)));
    }

    private static void quotientOfWord() {
        Bench.promise(16);
        Bench.test("Returns the number of the quotient of a language by the current word.", () -> {
            // The letter a comes first and leads to state 3: 3, 1 and 5 hold no word, 2 and 4 hold all words.
            LanguageAtoms x = Bench.with("321* 555 444* 111 222* 111");
            String[] words = {"", "a", "b", "c", "aa", "ba", "ca", "cc"};
            int[] numbers = {0, 1, 2, 1, 1, 2, 1, 1};
            for (int i = 0; i < words.length; i++) {
                Bench.due("'" + words[i] + "'", Bench.setWord(x, words[i]).quotientOfWord(0), numbers[i]);
            }
            Bench.due("the automaton stays", Bench.show(x, 0), "321* 555 444* 111 222* 111");
        });
        Bench.test("- `register`: the register, 0 to 2", () -> Bench.registers(r -> x -> x.quotientOfWord(r)));
        Bench.test("Returns the number of the quotient.", () -> {
            LanguageAtoms x = Bench.with(Bench.WITNESSES[5], Bench.EMPTY, "333 111* 222 444 555 222*");
            for (int length = 0; length <= 12; length++) {
                Bench.setWord(x, "aaaaaaaaaaaa".substring(0, length));
                Bench.due("round and round", x.quotientOfWord(0), length % 6);
                Bench.due("the only quotient", x.quotientOfWord(1), 0);
                Bench.due("in the order of the words", x.quotientOfWord(2), Math.min(length, 4));
            }
        });
        Bench.test("Throws `IndexOutOfBoundsException` if there is no such register",
            () -> registerRefused(r -> x -> x.quotientOfWord(r)));
    }

    private static void takeDifference() {
        Bench.promise(32);
        Bench.test("Makes the first word that is in exactly one of two languages the current word.", () -> {
            LanguageAtoms x = Bench.setWord(Bench.with(Bench.STARTS_WITH_A, Bench.ENDS_WITH_A, Bench.EVERY), FULL);
            x.takeDifference(0, 1);
            Bench.due("the earliest of ab and ba", Bench.word(x), "ab");
            x.takeDifference(2, 0);
            Bench.due("the empty word", Bench.word(x), "");
            x.takeDifference(0, 1);
            Bench.due("over the empty word", Bench.word(x), "ab");
            // The words c, aa and ac: the shorter one comes before the ones with an earlier letter.
            Bench.set(x, 0, "132 242 444* 444 444");
            Bench.set(x, 1, Bench.EMPTY);
            x.takeDifference(0, 1);
            Bench.due("the shortest", Bench.word(x), "c");
            Bench.due("the automata stay", Bench.show(x, 0) + "|" + Bench.show(x, 1), "132 242 444* 444 444|000");
        });
        Bench.test("- `first`: a register", () -> Bench.registers(r -> x -> x.takeDifference(r, r == 1 ? 0 : 1)));
        Bench.test("- `second`: a register", () -> Bench.registers(r -> x -> x.takeDifference(r == 1 ? 0 : 1, r)));
        Bench.test("Returns the length of the word.", () -> {
            LanguageAtoms x = Bench.with(Bench.EVERY, Bench.EMPTY);
            Bench.due("the least", x.takeDifference(0, 1), 0);
            Bench.due("the other way round", x.takeDifference(1, 0), 0);
            // Lengths 5, 11, .. and 5, 10, ..: no two automata of 6 states agree on more words.
            Bench.set(x, 0, "111 222 333 444 555 000*");
            Bench.set(x, 1, "111 222 333 444 555 111*");
            Bench.due("the greatest", x.takeDifference(0, 1), 10);
            Bench.due("the greatest", Bench.word(x), "aaaaaaaaaa");
            Bench.due("the other way round", x.takeDifference(1, 0), 10);
        });
        Bench.test("Throws `IndexOutOfBoundsException` if one of the registers does not exist", () -> {
            int[][] wrongs = {{-1, 0}, {3, 0}, {0, -1}, {0, 3}, {Bench.MIN, 0}, {0, Bench.MAX}, {3, 3}, {-1, -1}};
            for (int[] w : wrongs) {
                Bench.refused("wrong", Bench.INDEX, x -> x.takeDifference(w[0], w[1]));
                Bench.refused("with equal languages", Bench.INDEX, LanguageAtoms::new,
                    x -> x.takeDifference(w[0], w[1]));
            }
        });
        Bench.test("Throws `NoSuchElementException` if both languages are equal", () -> {
            for (int register = 0; register < 3; register++) {
                int r = register;
                Bench.refused("the same register", Bench.NO_ELEMENT, x -> x.takeDifference(r, r));
                Bench.refused("with a full word", Bench.NO_ELEMENT, WordCases::full, x -> x.takeDifference(r, r));
            }
            Bench.refused("different automata", Bench.NO_ELEMENT, () -> Bench.setWord(Bench.with(Bench.EVEN_LENGTH,
                "111* 222 333* 444 555* 000"), FULL), x -> x.takeDifference(0, 1));
            Bench.refused("both empty", Bench.NO_ELEMENT, () -> Bench.with(Bench.EMPTY, "123 234 345 450 501 012"),
                x -> x.takeDifference(1, 0));
            Bench.refused("a final state that no word reaches", Bench.NO_ELEMENT, () -> Bench.with(Bench.EMPTY,
                "000 111*"), x -> x.takeDifference(1, 0));
        });
        // Two automata of 6 states differ within 10 letters, if at all: no run of calls can reach the exception.
        Bench.test("Throws `IllegalStateException` if the word has more than 12 letters", () -> {
            for (int length = 0; length <= 4; length++) {
                String[] tail = Bench.LENGTH_4.replace("*", "").split(" ");
                tail[length] = tail[length] + "*";
                LanguageAtoms x = Bench.with(String.join(" ", tail), Bench.EMPTY);
                Bench.due("the word of a tail", x.takeDifference(0, 1), length);
            }
        });
    }
}
