import java.util.List;

/** The boundary cases that all promises share: the sentences of the document's description. */
final class DescriptionCases {
    private DescriptionCases() {
    }

    static void run() {
        Bench.promise(0);
        calls();
        exceptions();
        automata();
        quotients();
        atoms();
        operations();
        witnesses();
        wordAndRows();
    }

    private static void calls() {
        Bench.test("An object is used for at most 512 calls after it has been made", () -> {
            LanguageAtoms x = new LanguageAtoms();
            x.makeWitness(0, 6);
            x.makeWitness(1, 6);
            for (int round = 0; round < 102; round++) {
                Bench.due("atomSize", x.atomSize(0, 7), 501);
                Bench.due("resultSize", x.resultSize(4, 0, 1), 352);
                Bench.due("starSize", x.starSize(1), 48);
                Bench.due("uniteAtoms", x.uniteAtoms(0, -1L, 2), 1);
                Bench.due("isUnionOfAtoms", x.isUnionOfAtoms(0, 1), true);
            }
            // Two calls and 510 calls have been: there is none behind them.
        });
    }

    private static void exceptions() {
        Bench.test("A call that throws an exception leaves the state unchanged.", () -> {
            Bench.refused("many refused calls one after the other", Bench.STATE, DescriptionCases::crowded, x -> {
                for (Bench.Call call : refusedCalls()) {
                    Bench.due("a refused call", Bench.answer(x, call).endsWith("Exception"), true);
                }
                throw new IllegalStateException();
            });
            List<Bench.Call> calls = refusedCalls();
            for (int i = 0; i < calls.size(); i++) {
                LanguageAtoms x = crowded();
                Bench.due("refused call " + i, Bench.answer(x, calls.get(i)).endsWith("Exception"), true);
                Bench.due("the state behind refused call " + i, Bench.whole(x), Bench.whole(crowded()));
            }
        });
        Bench.test("If a method can throw several exceptions, they are checked in the order in which they are listed.",
            DescriptionCases::order);
    }

    /** Each register, the word and a row are as great as they may be. */
    private static LanguageAtoms crowded() {
        LanguageAtoms x = Bench.with(Bench.WITHOUT_A, Bench.LENGTH_4, Bench.ONLY_A);
        x.keepShares(1, 0, 20, true);
        x.save();
        x.makeWitness(0, 6);
        x.makeWitness(1, 5);
        return Bench.setWord(x, "abcabcabcabc");
    }

    private static List<Bench.Call> refusedCalls() {
        return List.of(Bench.act(x -> x.reset(0, 7)), Bench.act(x -> x.reset(3, 1)),
            Bench.act(x -> x.setTarget(1, 4, 0, 5)), x -> x.setFinal(1, 5, true), x -> x.stateCount(3),
            x -> x.target(0, 6, 0), x -> x.isFinal(0, 6), Bench.act(x -> x.randomize(3, 1)),
            Bench.act(x -> x.makeWitness(0, 0)), x -> x.appendLetter(0), x -> x.appendLetter(3),
            x -> x.wordLetter(12), x -> x.accepts(3), x -> x.size(3), x -> x.minimize(3), x -> x.quotientOfWord(3),
            x -> x.atomCount(3), x -> x.atomSet(1, 32), x -> x.atomOfWord(-1), x -> x.atomTargets(0, 64, 0),
            x -> x.initialAtoms(3), x -> x.finalAtom(3), x -> x.takeAtomWord(0, 63), x -> x.takeAtomWord(1, 31),
            x -> x.takeAtomWord(1, 32), x -> x.atomSize(0, 64), x -> x.resultSize(5, 0, 0), x -> x.resultSize(4, 0, 3),
            x -> x.starSize(3), x -> x.combine(4, 0, 1, 2), x -> x.combine(0, 0, 1, 0), x -> x.combine(3, 0, 1, 1),
            x -> x.combine(5, 0, 1, 2), x -> x.star(0, 0), x -> x.star(1, 2), x -> x.star(2, 3), x -> x.reverse(0, 0),
            x -> x.reverse(1, 2), x -> x.uniteAtoms(0, 1L, 0), x -> x.uniteAtoms(1, 1L, 2),
            x -> x.uniteAtoms(1, 1L << 32, 2), x -> x.isUnionOfAtoms(3, 0), x -> x.takeDifference(1, 1),
            x -> x.takeDifference(0, 3), x -> x.share(0, 21), Bench.act(x -> x.keepShares(1, 0, 21, false)),
            Bench.act(x -> x.keepShares(0, 3, 2, false)), x -> x.remainder(0, 0, 0), x -> x.remainder(1, 21, 0));
    }

    private static void order() {
        Bench.refused("reset", Bench.INDEX, Bench.act(x -> x.reset(3, 7)));
        Bench.refused("makeWitness", Bench.INDEX, Bench.act(x -> x.makeWitness(-1, 0)));
        Bench.refused("appendLetter", Bench.INDEX, DescriptionCases::crowded, x -> x.appendLetter(3));
        Bench.refused("takeAtomWord", Bench.INDEX, DescriptionCases::crowded, x -> x.takeAtomWord(3, 63));
        Bench.refused("resultSize", Bench.ARGUMENT, x -> x.resultSize(5, 3, 3));
        Bench.refused("combine 1 2", Bench.ARGUMENT, x -> x.combine(5, 3, 3, 3));
        Bench.refused("combine 1 3", Bench.ARGUMENT, DescriptionCases::crowded, x -> x.combine(-1, 0, 1, 2));
        Bench.refused("combine 2 3", Bench.INDEX, DescriptionCases::crowded, x -> x.combine(0, 0, 1, 3));
        Bench.refused("star", Bench.INDEX, DescriptionCases::crowded, x -> x.star(0, 3));
        Bench.refused("reverse", Bench.INDEX, DescriptionCases::crowded, x -> x.reverse(0, 3));
        Bench.refused("uniteAtoms 1 2", Bench.INDEX, DescriptionCases::crowded, x -> x.uniteAtoms(1, 1L << 32, 3));
        Bench.refused("uniteAtoms 1 3", Bench.INDEX, DescriptionCases::crowded, x -> x.uniteAtoms(1, 1L, 3));
        Bench.refused("uniteAtoms 2 3", Bench.ARGUMENT, DescriptionCases::crowded,
            x -> x.uniteAtoms(1, 1L << 32 | 1L, 0));
        Bench.refused("takeDifference", Bench.INDEX, x -> x.takeDifference(3, 3));
        Bench.refused("share", Bench.INDEX, x -> x.share(3, 21));
        Bench.refused("keepShares", Bench.INDEX, Bench.act(x -> x.keepShares(2, 0, 21, true)));
        Bench.refused("keepShares", Bench.INDEX, Bench.act(x -> x.keepShares(0, 3, -1, true)));
        Bench.refused("remainder 1 2", Bench.ARGUMENT, LanguageAtoms::new, x -> x.remainder(2, 0, 0));
        Bench.refused("remainder 1 3", Bench.ARGUMENT, x -> x.remainder(-1, -1, -1));
        Bench.refused("remainder 2 3", Bench.STATE, x -> x.remainder(1, -1, 21));
        Bench.refused("remainder 3 4", Bench.INDEX, DescriptionCases::zeroRow, x -> x.remainder(0, 3, 0));
        Bench.refused("remainder 4", Bench.ARITHMETIC, DescriptionCases::zeroRow, x -> x.remainder(0, 2, 0));
    }

    private static LanguageAtoms zeroRow() {
        LanguageAtoms x = new LanguageAtoms();
        x.keepShares(0, 0, 2, false);
        return x;
    }

    private static void automata() {
        Bench.test("There are 3 registers, numbered from 0.", () -> {
            String[] kinds = {Bench.WITNESSES[5], Bench.ONLY_A, Bench.ENDS_WITH_A};
            for (int register = 0; register < 3; register++) {
                LanguageAtoms x = new LanguageAtoms();
                Bench.set(x, register, kinds[register]);
                for (int other = 0; other < 3; other++) {
                    Bench.due("register " + other, Bench.show(x, other), other == register ? kinds[other] : "000");
                }
            }
        });
        Bench.test("Each one holds a complete deterministic finite automaton with 1 to 6 states, numbered from 0, over "
            + "the letters a, b and c, numbered 0, 1 and 2.", () -> {
                LanguageAtoms x = Bench.with("000*", "123 234 345* 450 501 012*", "555 444* 333 222* 111 000*");
                Bench.due("all", Bench.all(x), "000* | 123 234 345* 450 501 012* | 555 444* 333 222* 111 000* | ");
            });
        Bench.test("For each state and letter there is exactly one target.", () -> {
            for (int state = 0; state < 6; state++) {
                for (int letter = 0; letter < 3; letter++) {
                    LanguageAtoms x = new LanguageAtoms();
                    x.reset(0, 6);
                    x.setTarget(0, state, letter, 5);
                    x.setTarget(0, state, letter, 3);
                    StringBuilder text = new StringBuilder("000 000 000 000 000 000");
                    text.setCharAt(4 * state + letter, '3');
                    Bench.due("one target", Bench.show(x, 0), text.toString());
                }
            }
        });
        Bench.test("The initial state is state 0; some states are final.", () -> {
            LanguageAtoms x = Bench.with("111* 111", "111 111*", "111* 111*");
            Bench.due("the empty word", "" + x.accepts(0) + x.accepts(1) + x.accepts(2), "truefalsetrue");
            x.appendLetter(2);
            Bench.due("a letter", "" + x.accepts(0) + x.accepts(1) + x.accepts(2), "falsetruetrue");
        });
        Bench.test("Words are ordered by length, and words of the same length lexicographically.", () -> {
            // The words b and aa; ac and ba; ab and ba; cca and ccb.
            String[][] cases = {{"123 233 333* 333", "b"}, {"124 443 344 444* 444", "ac"},
                {"124 434 344 444* 444", "ab"}, {"441 442 334 444* 444", "cca"}};
            for (String[] pair : cases) {
                LanguageAtoms x = Bench.with(pair[0], Bench.EMPTY);
                x.takeDifference(0, 1);
                Bench.due("takeDifference of " + pair[0], Bench.word(x), pair[1]);
                long initial = x.initialAtoms(0);
                boolean found = false;
                for (int atom = 0; atom < x.atomCount(0); atom++) {
                    if ((initial >>> atom & 1) == 1) {
                        x.takeAtomWord(0, atom);
                        found |= Bench.word(x).equals(pair[1]);
                    }
                }
                Bench.due("takeAtomWord of " + pair[0], found, true);
            }
        });
    }

    private static void quotients() {
        Bench.test("quotient 0 is the language itself, and of two quotients the one that is the quotient by an earlier "
            + "word has the lower number.", () -> {
                // From state 0 by a to 5, by b to 4, by c to 3, then by aa to 2 and by ab to 1.
                LanguageAtoms x = Bench.with("543 111 222* 222 113* 215");
                String[] words = {"", "a", "b", "c", "aa", "ab"};
                int[] numbers = {0, 1, 2, 3, 4, 5};
                for (int i = 0; i < words.length; i++) {
                    Bench.due("'" + words[i] + "'", Bench.setWord(x, words[i]).quotientOfWord(0), numbers[i]);
                }
                x.minimize(0);
                Bench.due("the minimal automaton", Bench.show(x, 0), "123 451 553* 444 444* 555");
            });
        Bench.test("it is the number of states of its minimal automaton.", () -> {
            for (int seed = 0; seed < 20; seed++) {
                LanguageAtoms x = new LanguageAtoms();
                x.reset(0, 6);
                x.randomize(0, seed);
                int size = x.size(0);
                Bench.due("minimize", x.minimize(0), size);
                Bench.due("stateCount", x.stateCount(0), size);
            }
        });
        Bench.test("a quotient is final if it contains the empty word.", () -> {
            LanguageAtoms x = Bench.with(Bench.ONLY_EMPTY_WORD, Bench.LENGTH_1);
            x.minimize(0);
            x.minimize(1);
            Bench.due("minimal automata", Bench.all(x), Bench.ONLY_EMPTY_WORD + " | " + Bench.LENGTH_1 + " | 000 | ");
        });
    }

    private static void atoms() {
        Bench.test("The atoms are numbered from 0 in increasing order of their sets as integers.", () -> {
            for (int seed = 0; seed < 20; seed++) {
                LanguageAtoms x = new LanguageAtoms();
                x.reset(0, 6);
                x.randomize(0, seed);
                int before = -1;
                for (int atom = 0; atom < x.atomCount(0); atom++) {
                    int set = x.atomSet(0, atom);
                    Bench.due("greater than the one before", set > before && set < 64, true);
                    before = set;
                }
            }
        });
        Bench.test("Each word is in exactly one atom.", () -> {
            LanguageAtoms x = Bench.with(Bench.ATOMS_7);
            int[] seen = new int[7];
            for (String word : Bench.words(3)) {
                seen[Bench.setWord(x, word).atomOfWord(0)]++;
            }
            int sum = 0;
            for (int count : seen) {
                sum += count;
            }
            Bench.due("all words", sum, 40);
        });
        Bench.test("An atom A leads with a letter to an atom B if each word of B, with the letter put in front of it, "
            + "is in A.", () -> {
                String automaton = Bench.ATOMS_7;
                for (String word : Bench.words(4)) {
                    for (int letter = 0; letter < 3; letter++) {
                        LanguageAtoms x = Bench.setWord(Bench.with(automaton), word);
                        int to = x.atomOfWord(0);
                        int from = Bench.setWord(x, (char) ('a' + letter) + word).atomOfWord(0);
                        for (int atom = 0; atom < 7; atom++) {
                            Bench.due("leads", x.atomTargets(0, atom, letter) >>> to & 1L, atom == from ? 1L : 0L);
                        }
                    }
                }
            });
        Bench.test("An atom is initial if its words are in the language.", () -> {
            LanguageAtoms x = Bench.with(Bench.ATOMS_7);
            for (String word : Bench.words(3)) {
                Bench.setWord(x, word);
                Bench.due("'" + word + "'", (x.initialAtoms(0) >>> x.atomOfWord(0) & 1L) == 1L, x.accepts(0));
            }
        });
        Bench.test("The atom that contains the empty word is final.", () -> {
            for (String automaton : new String[] {Bench.ATOMS_7, Bench.ATOMS_63, Bench.EVERY, Bench.EMPTY}) {
                LanguageAtoms x = Bench.with(automaton);
                Bench.due("takeAtomWord", x.takeAtomWord(0, x.finalAtom(0)), 0);
                Bench.due("atomOfWord", x.atomOfWord(0), x.finalAtom(0));
            }
        });
    }

    private static void operations() {
        Bench.test("0 union, 1 intersection, 2 difference (the words of the first language that are not in the second "
            + "one), 3 symmetric difference (the words that are in exactly one of both languages)", () -> {
                LanguageAtoms x = Bench.with(Bench.STARTS_WITH_A, Bench.EVEN_LENGTH);
                for (int operation = 0; operation < 4; operation++) {
                    x.combine(operation, 0, 1, 2);
                    for (String word : new String[] {"", "a", "b", "aa", "bb", "abcabcabcabc", "cbacbacbacb"}) {
                        boolean a = word.startsWith("a");
                        boolean b = word.length() % 2 == 0;
                        boolean[] results = {a || b, a && b, a && !b, a != b};
                        Bench.due(operation + " '" + word + "'", Bench.setWord(x, word).accepts(2), results[operation]);
                    }
                }
            });
        Bench.test("4 concatenation (each word of the first language followed by each word of the second one).", () -> {
            LanguageAtoms x = Bench.with(Bench.ONLY_A, Bench.ONLY_EMPTY_WORD, Bench.EMPTY);
            Bench.due("with the empty word", x.combine(4, 0, 1, 2), 3);
            Bench.due("with the empty word", Bench.show(x, 2), Bench.ONLY_A);
            Bench.due("of the empty word", x.combine(4, 1, 0, 2), 3);
            Bench.due("of the empty word", Bench.show(x, 2), Bench.ONLY_A);
            x.reset(2, 1);
            Bench.due("with no word", x.combine(4, 0, 2, 2), 1);
            Bench.due("with no word", Bench.show(x, 2), Bench.EMPTY);
            Bench.due("of no word", x.combine(4, 2, 0, 2), 1);
            Bench.due("of no word", Bench.show(x, 2), Bench.EMPTY);
        });
        Bench.test("The star of a language consists of all words that are concatenations of any number of words of the "
            + "language; it contains the empty word.", () -> {
                for (String automaton : new String[] {Bench.EMPTY, Bench.ONLY_A, Bench.LENGTH_3, Bench.EVERY}) {
                    LanguageAtoms x = Bench.with(automaton);
                    x.star(0, 1);
                    Bench.due("the empty word", x.accepts(1), true);
                    Bench.setWord(x, "aaaaaaaaaaaa");
                    Bench.due("twelve letters a", x.accepts(1), !automaton.equals(Bench.EMPTY));
                }
            });
        Bench.test("The reversal of a language consists of its words read backwards.", () -> {
            LanguageAtoms x = Bench.with("144 424 443 444* 444");
            x.reverse(0, 1);
            Bench.due("abc", Bench.setWord(x, "abc").accepts(1), false);
            Bench.due("cba", Bench.setWord(x, "cba").accepts(1), true);
        });
    }

    private static void witnesses() {
        Bench.test("The letter a leads from state k to state k + 1, and from state n - 1 to state 0.", () -> {
            for (int n = 1; n <= 6; n++) {
                LanguageAtoms x = new LanguageAtoms();
                x.makeWitness(0, n);
                for (int k = 0; k < n; k++) {
                    Bench.due("a from " + k + " of " + n, x.target(0, k, 0), k == n - 1 ? 0 : k + 1);
                }
            }
        });
        Bench.test("The letter b exchanges the states 0 and 1 and leads from each other state to itself; with one "
            + "state it leads from state 0 to itself.", () -> {
                String[] targets = {"0", "10", "102", "1023", "10234", "102345"};
                for (int n = 1; n <= 6; n++) {
                    LanguageAtoms x = new LanguageAtoms();
                    x.makeWitness(0, n);
                    for (int k = 0; k < n; k++) {
                        Bench.due("b from " + k + " of " + n, x.target(0, k, 1), targets[n - 1].charAt(k) - '0');
                    }
                }
            });
        Bench.test("The letter c leads from state n - 1 to state 0 and from each other state to itself.", () -> {
            for (int n = 1; n <= 6; n++) {
                LanguageAtoms x = new LanguageAtoms();
                x.makeWitness(0, n);
                for (int k = 0; k < n; k++) {
                    Bench.due("c from " + k + " of " + n, x.target(0, k, 2), k == n - 1 ? 0 : k);
                }
            }
        });
        Bench.test("Only state n - 1 is final.", () -> {
            for (int n = 1; n <= 6; n++) {
                LanguageAtoms x = new LanguageAtoms();
                x.makeWitness(0, n);
                for (int k = 0; k < n; k++) {
                    Bench.due("state " + k + " of " + n, x.isFinal(0, k), k == n - 1);
                }
            }
        });
    }

    private static void wordAndRows() {
        Bench.test("There is a current word of at most 12 letters, which is empty at first.", () -> {
            LanguageAtoms x = new LanguageAtoms();
            Bench.due("no letter", Bench.answer(x, y -> y.wordLetter(0)), Bench.INDEX);
            for (int i = 0; i < 12; i++) {
                x.appendLetter(2);
            }
            Bench.due("no thirteenth", Bench.answer(x, y -> y.appendLetter(2)), Bench.STATE);
            Bench.due("twelve letters", x.clearWord(), 12);
        });
        Bench.test("There are 2 rows of numbers, numbered 0 and 1, which are missing at first.", () -> {
            LanguageAtoms x = Bench.with(Bench.WITHOUT_A);
            Bench.due("row 0", Bench.answer(x, y -> y.remainder(0, 0, 0)), Bench.STATE);
            Bench.due("row 1", Bench.answer(x, y -> y.remainder(1, 0, 0)), Bench.STATE);
            Bench.due("row 2", Bench.answer(x, y -> y.remainder(2, 0, 0)), Bench.ARGUMENT);
            x.keepShares(0, 0, 0, true);
            Bench.due("row 0 is made", x.remainder(0, 0, 0), 0.0);
            Bench.due("row 1 still", Bench.answer(x, y -> y.remainder(1, 0, 0)), Bench.STATE);
        });
        Bench.test("A row has elements of type float or of type double.", () -> {
            LanguageAtoms x = Bench.with(Bench.WITHOUT_A);
            x.keepShares(0, 0, 1, true);
            x.keepShares(1, 0, 1, false);
            Bench.due("float", x.remainder(0, 1, 0), (double) (2.0f / 3.0f));
            Bench.due("double", x.remainder(1, 1, 0), 2.0 / 3.0);
        });
    }
}
