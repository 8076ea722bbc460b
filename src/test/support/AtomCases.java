import java.util.Map;
import java.util.TreeMap;
import java.util.TreeSet;
import java.util.function.IntFunction;

/** The boundary cases of promises 17 to 24, 30 and 31: atoms, their words, and unions of them. */
final class AtomCases {
    private static final long INITIAL_OF_64 = 0xAAAAAAAAAAAAAAAAL;

    private AtomCases() {
    }

    static void run() {
        atomCount();
        atomSet();
        atomOfWord();
        atomTargets();
        initialAtoms();
        finalAtom();
        takeAtomWord();
        atomSize();
        uniteAtoms();
        isUnionOfAtoms();
    }

    /** Languages with 1, 64 and 63 atoms. */
    private static LanguageAtoms different() {
        return Bench.setWord(Bench.with(Bench.EMPTY, Bench.WITNESSES[5], Bench.ATOMS_63), "abc");
    }

    /** Atoms are numbered up to the number of atoms of the very register. */
    private static void atoms(IntFunction<IntFunction<Bench.Call>> calls) {
        int[] greatest = {0, 63, 62};
        for (int register = 0; register < 3; register++) {
            Bench.range("atom of register " + register, 0, greatest[register], Bench.INDEX, AtomCases::different,
                calls.apply(register));
        }
    }

    private interface TwoNumbers {
        Bench.Call of(int first, int second);
    }

    private static void registerOrAtomRefused(TwoNumbers calls) {
        int[][] wrongs = {{-1, 0}, {3, 0}, {0, -1}, {0, 8}, {1, 3}, {2, 3}, {0, 32}, {0, 64}, {Bench.MIN, 0},
            {Bench.MAX, 0}, {0, Bench.MIN}, {0, Bench.MAX}, {3, 64}};
        for (int[] w : wrongs) {
            Bench.refused("register " + w[0] + " atom " + w[1], Bench.INDEX, calls.of(w[0], w[1]));
        }
        Bench.refused("the 65th atom", Bench.INDEX, AtomCases::different, calls.of(1, 64));
        Bench.refused("the 64th of 63 atoms", Bench.INDEX, AtomCases::different, calls.of(2, 63));
        Bench.refused("the second of one atom", Bench.INDEX, AtomCases::different, calls.of(0, 1));
    }

    private static void registerRefused(IntFunction<Bench.Call> calls) {
        for (int r : new int[] {-1, 3, Bench.MIN, Bench.MAX}) {
            Bench.refused("register " + r, Bench.INDEX, calls.apply(r));
        }
    }

    private static void atomCount() {
        Bench.promise(17);
        Bench.test("Returns the number of atoms of a language.", () -> {
            LanguageAtoms x = Bench.with(Bench.ENDS_WITH_A, Bench.STARTS_WITH_A, "000 123* 234 345* 450 501*");
            Bench.due("the rest, the empty word, and what ends with a", x.atomCount(0), 3);
            Bench.due("what starts with a, and the rest", x.atomCount(1), 2);
            Bench.due("states that no word reaches", x.atomCount(2), 1);
            Bench.due("the automaton stays", Bench.show(x, 2), "000 123* 234 345* 450 501*");
        });
        Bench.test("- `register`: the register, 0 to 2", () -> Bench.registers(r -> x -> x.atomCount(r)));
        Bench.test("Returns 1 to 64.", () -> {
            LanguageAtoms x = different();
            Bench.due("the least, of no words", x.atomCount(0), 1);
            Bench.due("the greatest", x.atomCount(1), 64);
            Bench.due("the greatest but one", x.atomCount(2), 63);
            Bench.due("the least, of all words", Bench.set(x, 0, Bench.EVERY).atomCount(0), 1);
            Bench.due("32", Bench.set(x, 0, Bench.WITNESSES[4]).atomCount(0), 32);
            Bench.due("7", Bench.set(x, 0, Bench.ATOMS_7).atomCount(0), 7);
        });
        Bench.test("Throws `IndexOutOfBoundsException` if there is no such register",
            () -> registerRefused(r -> x -> x.atomCount(r)));
    }

    private static void atomSet() {
        Bench.promise(18);
        Bench.test("Returns the set of an atom.", () -> {
            for (String automaton : new String[] {Bench.ATOMS_7, Bench.ATOM_OF_SIZE_7, Bench.ENDS_WITH_A,
                Bench.LENGTH_4, Bench.WITNESSES[2], Bench.EMPTY, Bench.EVERY}) {
                LanguageAtoms x = Bench.with(automaton);
                int atom = 0;
                for (int set : Bench.firstWords(automaton, 8).keySet()) {
                    Bench.due(automaton + " atom " + atom, x.atomSet(0, atom), set);
                    atom++;
                }
                Bench.due("the next one", Bench.answer(x, y -> y.atomSet(0, y.atomCount(0))), Bench.INDEX);
            }
        });
        Bench.test("- `register`: the register, 0 to 2", () -> Bench.registers(r -> x -> x.atomSet(r, 0)));
        Bench.test("- `atom`: the number of the atom", () -> atoms(r -> a -> x -> x.atomSet(r, a)));
        Bench.test("Returns the set of the quotients that contain the words of the atom.", () -> {
            LanguageAtoms x = different();
            Bench.due("in no quotient", x.atomSet(1, 0), 0);
            Bench.due("in the last quotient alone", x.atomSet(1, 32), 32);
            Bench.due("in all quotients", x.atomSet(1, 63), 63);
            Bench.due("the only atom of no words", x.atomSet(0, 0), 0);
            Bench.due("the only atom of all words", Bench.set(x, 0, Bench.EVERY).atomSet(0, 0), 1);
            // Quotients, not states: state 2 is quotient 1, because a leads to it.
            Bench.due("quotients are numbered by their words", Bench.set(x, 0, "200 111 200*").atomSet(0, 1), 2);
        });
        Bench.test("Throws `IndexOutOfBoundsException` if there is no such register or atom",
            () -> registerOrAtomRefused((r, a) -> x -> x.atomSet(r, a)));
    }

    private static void atomOfWord() {
        Bench.promise(19);
        Bench.test("Returns the number of the atom that contains the current word.", () -> {
            for (String automaton : new String[] {Bench.ATOMS_7, Bench.ENDS_WITH_A, Bench.LENGTH_4}) {
                TreeSet<Integer> sets = new TreeSet<>(Bench.firstWords(automaton, 8).keySet());
                for (String word : new String[] {"", "a", "b", "c", "ab", "ccc", "abca", "ccccc", "abcabcabcabc"}) {
                    LanguageAtoms x = Bench.setWord(Bench.with(automaton), word);
                    Bench.due(automaton + " '" + word + "'", x.atomOfWord(0),
                        sets.headSet(Bench.setOf(automaton, word)).size());
                    Bench.due("the word stays", Bench.word(x), word);
                }
            }
        });
        Bench.test("- `register`: the register, 0 to 2", () -> Bench.registers(r -> x -> x.atomOfWord(r)));
        Bench.test("Returns the number of the atom.", () -> {
            LanguageAtoms x = Bench.setWord(different(), "");
            Bench.due("the empty word is in the last quotient alone", x.atomOfWord(1), 32);
            Bench.setWord(x, "aaacabcaaaaa");
            Bench.due("twelve letters", x.atomOfWord(1), 14);
            Bench.due("the only atom", x.atomOfWord(0), 0);
        });
        Bench.test("Throws `IndexOutOfBoundsException` if there is no such register",
            () -> registerRefused(r -> x -> x.atomOfWord(r)));
    }

    private static void atomTargets() {
        Bench.promise(20);
        Bench.test("Returns the atoms to which an atom leads with a letter.", () -> {
            LanguageAtoms x = Bench.with(Bench.LENGTH_4, Bench.EMPTY, Bench.ONLY_EMPTY_WORD);
            // Atom 1 has the words of length 4, 2 those of 3, .., 5 the empty word, 0 the longer ones.
            for (int letter = 0; letter < 3; letter++) {
                Bench.due("longer ones", x.atomTargets(0, 0, letter), 3L);
                Bench.due("length 4", x.atomTargets(0, 1, letter), 4L);
                Bench.due("length 1", x.atomTargets(0, 4, letter), 32L);
                Bench.due("the empty word: no atom", x.atomTargets(0, 5, letter), 0L);
                Bench.due("the only atom", x.atomTargets(1, 0, letter), 1L);
                Bench.due("all other words", x.atomTargets(2, 0, letter), 3L);
            }
        });
        Bench.test("- `register`: the register, 0 to 2", () -> Bench.registers(r -> x -> x.atomTargets(r, 0, 0)));
        Bench.test("- `atom`: the number of the atom", () -> atoms(r -> a -> x -> x.atomTargets(r, a, 2)));
        Bench.test("- `letter`: the letter, 0 to 2",
            () -> Bench.range("letter", 0, 2, Bench.INDEX, c -> x -> x.atomTargets(0, 7, c)));
        Bench.test("Returns the set of atoms, bit k for atom k.", () -> {
            LanguageAtoms x = different();
            for (int letter = 0; letter < 3; letter++) {
                Bench.due("bit 0", x.atomTargets(1, 0, letter) & 1L, 1L);
                Bench.due("bit 63", x.atomTargets(1, 63, letter) >>> 63, 1L);
                long sum = 0;
                for (int atom = 0; atom < 64; atom++) {
                    sum += x.atomTargets(1, atom, letter);
                }
                // Each atom is led to by exactly one: the sets are disjoint, and together they are all 64.
                Bench.due("all together", sum, -1L);
            }
            // The letter c leads both 5 and 0 to 0: behind it bit 5 of a set has no meaning.
            Bench.due("bits 30 and 62", x.atomTargets(1, 30, 2), 1L << 30 | 1L << 62);
            Bench.due("bits 31 and 63", x.atomTargets(1, 63, 2), 1L << 31 | 1L << 63);
        });
        Bench.test("Throws `IndexOutOfBoundsException` if there is no such register, atom or letter", () -> {
            for (int letter = 0; letter < 3; letter++) {
                int c = letter;
                registerOrAtomRefused((r, a) -> x -> x.atomTargets(r, a, c));
            }
            for (int c : new int[] {-1, 3, Bench.MIN, Bench.MAX}) {
                Bench.refused("letter " + c, Bench.INDEX, x -> x.atomTargets(0, 0, c));
                Bench.refused("letter " + c, Bench.INDEX, x -> x.atomTargets(3, 64, c));
            }
        });
    }

    private static void initialAtoms() {
        Bench.promise(21);
        Bench.test("Returns the initial atoms.", () -> {
            LanguageAtoms x = Bench.with(Bench.ENDS_WITH_A, Bench.LENGTH_4, Bench.ALL_BUT_LENGTH_4);
            Bench.due("what ends with a", x.initialAtoms(0), 4L);
            Bench.due("length 4", x.initialAtoms(1), 2L);
            // The sets are all six quotients, or all but one: in order without quotient 4, 3, 2, 1, 0.
            Bench.due("all but length 4", x.initialAtoms(2), 0b101111L);
        });
        Bench.test("- `register`: the register, 0 to 2", () -> Bench.registers(r -> x -> x.initialAtoms(r)));
        Bench.test("Returns the set of atoms, bit k for atom k.", () -> {
            LanguageAtoms x = different();
            Bench.due("none", x.initialAtoms(0), 0L);
            Bench.due("bits up to 63", x.initialAtoms(1), INITIAL_OF_64);
            Bench.due("all", Bench.set(x, 0, Bench.EVERY).initialAtoms(0), 1L);
            Bench.due("32 atoms", Bench.set(x, 0, Bench.WITNESSES[4]).initialAtoms(0), 0xAAAAAAAAL);
        });
        Bench.test("Throws `IndexOutOfBoundsException` if there is no such register",
            () -> registerRefused(r -> x -> x.initialAtoms(r)));
    }

    private static void finalAtom() {
        Bench.promise(22);
        Bench.test("Returns the final atom.", () -> {
            LanguageAtoms x = Bench.with(Bench.ENDS_WITH_A, Bench.LENGTH_4, Bench.ALL_BUT_LENGTH_4);
            Bench.due("what ends with a", x.finalAtom(0), 1);
            Bench.due("length 4", x.finalAtom(1), 5);
            Bench.due("all but length 4", x.finalAtom(2), 0);
        });
        Bench.test("- `register`: the register, 0 to 2", () -> Bench.registers(r -> x -> x.finalAtom(r)));
        Bench.test("Returns the number of the atom.", () -> {
            LanguageAtoms x = different();
            Bench.due("of one", x.finalAtom(0), 0);
            Bench.due("of 64", x.finalAtom(1), 32);
            Bench.due("of all words", Bench.set(x, 0, Bench.EVERY).finalAtom(0), 0);
            Bench.setWord(x, "");
            for (int register = 0; register < 3; register++) {
                Bench.due("the empty word's", x.finalAtom(register), x.atomOfWord(register));
            }
        });
        Bench.test("Throws `IndexOutOfBoundsException` if there is no such register",
            () -> registerRefused(r -> x -> x.finalAtom(r)));
    }

    private static void takeAtomWord() {
        Bench.promise(23);
        // All words of up to 13 letters are gone through.
        Map<Integer, String> first = Bench.firstWords(Bench.WITNESSES[4], 13);
        Bench.test("Makes the first word of an atom the current word.", () -> {
            LanguageAtoms x = Bench.setWord(Bench.with(Bench.WITNESSES[4]), "abcabcabcabc");
            for (int atom = 0; atom < 32; atom++) {
                String word = first.getOrDefault(atom, "more than thirteen letters");
                if (word.length() <= 12) {
                    Bench.due("length", x.takeAtomWord(0, atom), word.length());
                    Bench.due("atom " + atom, Bench.word(x), word);
                }
            }
            Bench.due("the automaton stays", Bench.show(x, 0), Bench.WITNESSES[4]);
        });
        Bench.test("- `register`: the register, 0 to 2", () -> Bench.registers(r -> x -> x.takeAtomWord(r, 0)));
        Bench.test("- `atom`: the number of the atom",
            () -> Bench.range("atom", 0, 7, Bench.INDEX, a -> x -> x.takeAtomWord(0, a)));
        Bench.test("Returns the length of the word.", () -> {
            LanguageAtoms x = Bench.with(Bench.EMPTY, Bench.WITNESSES[4], Bench.LENGTH_4);
            Bench.setWord(x, "abcabcabcabc");
            Bench.due("the least", x.takeAtomWord(0, 0), 0);
            Bench.due("the least", Bench.word(x), "");
            Bench.due("the greatest", x.takeAtomWord(1, 11), 12);
            Bench.due("the greatest", Bench.word(x), "aaabcabcaaaa");
            Bench.due("the longer ones", x.takeAtomWord(2, 0), 5);
            Bench.due("the longer ones", Bench.word(x), "aaaaa");
        });
        Bench.test("Throws `IndexOutOfBoundsException` if there is no such register or atom", () -> {
            registerOrAtomRefused((r, a) -> x -> x.takeAtomWord(r, a));
            Bench.refused("no word is looked for", Bench.INDEX, () -> Bench.with(Bench.WITNESSES[5]),
                x -> x.takeAtomWord(0, 64));
        });
        Bench.test("Throws `IllegalStateException` if the word has more than 12 letters", () -> {
            int[] lengths = new int[15];
            for (int atom = 0; atom < 32; atom++) {
                int a = atom;
                int length = first.getOrDefault(atom, "more than thirteen letters").length();
                lengths[Math.min(length, 14)]++;
                if (length <= 12) {
                    Bench.taken("atom " + a, () -> Bench.with(Bench.WITNESSES[4]), x -> x.takeAtomWord(0, a));
                } else {
                    Bench.refused("atom " + a, Bench.STATE, () -> Bench.setWord(Bench.with(Bench.WITNESSES[4]), "cab"),
                        x -> x.takeAtomWord(0, a));
                    Bench.refused("atom " + a, Bench.STATE, () -> Bench.with(Bench.WITNESSES[4]),
                        x -> x.takeAtomWord(0, a));
                }
            }
            Bench.due("there are words of 12 and of 13 letters", lengths[12] > 0 && lengths[13] > 0, true);
        });
    }

    private static void atomSize() {
        Bench.promise(24);
        Bench.test("Returns the size of an atom, that is, the number of quotients of the atom as a language.", () -> {
            for (String automaton : new String[] {Bench.ENDS_WITH_A, Bench.STARTS_WITH_A, Bench.LENGTH_4,
                Bench.EVEN_LENGTH}) {
                LanguageAtoms x = Bench.with(automaton);
                int atom = 0;
                for (int set : Bench.firstWords(automaton, 8).keySet()) {
                    Bench.due(automaton + " atom " + atom, x.atomSize(0, atom),
                        Bench.countQuotients(word -> Bench.setOf(automaton, word) == set));
                    atom++;
                }
            }
        });
        Bench.test("- `register`: the register, 0 to 2", () -> Bench.registers(r -> x -> x.atomSize(r, 0)));
        Bench.test("- `atom`: the number of the atom", () -> atoms(r -> a -> x -> x.atomSize(r, a)));
        Bench.test("Returns the number of quotients.", () -> {
            LanguageAtoms x = different();
            Bench.due("the least", x.atomSize(0, 0), 1);
            Bench.due("the least, of all words", Bench.set(x, 0, Bench.EVERY).atomSize(0, 0), 1);
            // By the theory of atoms: 2^6 - 1 for all quotients or none, 1 + sum C(6,k) C(6-k,l) for three of six.
            Bench.due("of no quotient", x.atomSize(1, 0), 63);
            Bench.due("of all quotients", x.atomSize(1, 63), 63);
            Bench.due("the greatest", x.atomSize(1, 7), 501);
            Bench.due("the greatest", x.atomSize(1, 56), 501);
            Bench.due("seven", Bench.set(x, 0, Bench.ATOM_OF_SIZE_7).atomSize(0, 0), 7);
        });
        Bench.test("Throws `IndexOutOfBoundsException` if there is no such register or atom",
            () -> registerOrAtomRefused((r, a) -> x -> x.atomSize(r, a)));
    }

    private static void uniteAtoms() {
        Bench.promise(30);
        Bench.test("Stores the minimal automaton of the union of some atoms of a language in a register.", () -> {
            // Atom 1 has the words of length 4, 2 those of 3, .., 5 the empty word, 0 the longer ones.
            LanguageAtoms x = Bench.setWord(Bench.with(Bench.LENGTH_4, Bench.EVERY, Bench.EVERY), "abc");
            Bench.due("longer than 4", x.uniteAtoms(0, 1L, 1), 6);
            Bench.due("all", Bench.all(x), Bench.LENGTH_4 + " | 111 222 333 444 555 555* | 000* | abc");
            Bench.due("the empty word and length 1", x.uniteAtoms(0, 0b110000L, 2), 3);
            Bench.due("all", Bench.all(x), Bench.LENGTH_4 + " | 111 222 333 444 555 555* | 111* 222* 222 | abc");
        });
        Bench.test("The union of no atoms is the empty language.", () -> {
            for (String automaton : new String[] {Bench.EMPTY, Bench.EVERY, Bench.ENDS_WITH_A, Bench.WITNESSES[5]}) {
                LanguageAtoms x = Bench.with(automaton, Bench.WITNESSES[5]);
                Bench.due("states", x.uniteAtoms(0, 0L, 1), 1);
                Bench.due("empty", Bench.show(x, 1), Bench.EMPTY);
            }
        });
        Bench.test("- `source`: the register with the language",
            () -> Bench.registers(r -> x -> x.uniteAtoms(r, 0L, 0)));
        Bench.test("- `atoms`: the set of atoms, bit k for atom k", () -> {
            LanguageAtoms x = Bench.with(Bench.WITNESSES[5]);
            Bench.due("all 64", x.uniteAtoms(0, -1L, 1), 1);
            Bench.due("all 64", Bench.show(x, 1), Bench.EVERY);
            Bench.due("the initial ones, bit 63 among them", x.uniteAtoms(0, INITIAL_OF_64, 1), 6);
            Bench.due("the language itself", Bench.show(x, 1), Bench.WITNESSES[5]);
            Bench.due("the others", x.uniteAtoms(0, ~INITIAL_OF_64, 1), 6);
            Bench.due("the others", Bench.show(x, 1), "110* 201* 322* 433* 544* 050");
            Bench.due("one of one", x.uniteAtoms(2, 1L, 2), 1);
            Bench.due("one of one", Bench.show(x, 2), Bench.EVERY);
            Bench.due("one of one", x.uniteAtoms(2, 1L, 2), 1);
            Bench.due("one of one", Bench.show(x, 2), Bench.EVERY);
        });
        Bench.test("- `target`: the register that gets the result, possibly the same", () -> {
            Bench.registers(r -> x -> x.uniteAtoms(2, 1L, r));
            LanguageAtoms x = Bench.with(Bench.LENGTH_4, Bench.EVERY, Bench.EVERY);
            Bench.due("the same", x.uniteAtoms(0, 1L, 0), 6);
            Bench.due("the same", Bench.all(x), "111 222 333 444 555 555* | 000* | 000* | ");
        });
        Bench.test("Returns the number of states.", () -> {
            LanguageAtoms x = Bench.with(Bench.LENGTH_4);
            for (int length = 0; length <= 4; length++) {
                Bench.due("a single length", x.uniteAtoms(0, 1L << 5 - length, 1), length + 2);
                Bench.due("stateCount", x.stateCount(1), length + 2);
            }
        });
        Bench.test("Throws `IndexOutOfBoundsException` if one of the registers does not exist", () -> {
            int[][] wrongs = {{-1, 1}, {3, 1}, {1, -1}, {1, 3}, {Bench.MIN, 1}, {1, Bench.MAX}, {3, 3}};
            for (int[] w : wrongs) {
                Bench.refused("register", Bench.INDEX, x -> x.uniteAtoms(w[0], 0L, w[1]));
                Bench.refused("register and atom", Bench.INDEX, x -> x.uniteAtoms(w[0], Long.MIN_VALUE, w[1]));
            }
            Bench.refused("register and size", Bench.INDEX, x -> x.uniteAtoms(0, 1L, 3));
        });
        Bench.test("Throws `IllegalArgumentException` if the set contains an atom that does not exist",
            AtomCases::atomThatDoesNotExist);
        Bench.test("Throws `IllegalStateException` if the union has more than 6 quotients", () -> {
            LanguageAtoms x = Bench.with(Bench.ATOM_OF_SIZE_7);
            Bench.due("seven quotients", Bench.countQuotients(w -> Bench.setOf(Bench.ATOM_OF_SIZE_7, w) == 0), 7);
            Bench.due("seven quotients", x.atomSize(0, 0), 7);
            for (int target = 0; target < 3; target++) {
                int t = target;
                Bench.refused("seven quotients", Bench.STATE, () -> Bench.setWord(Bench.with(Bench.ATOM_OF_SIZE_7,
                    Bench.ONLY_A, Bench.EVERY), "ab"), y -> y.uniteAtoms(0, 1L, t));
                Bench.refused("its complement has as many", Bench.STATE, () -> Bench.with(Bench.ATOM_OF_SIZE_7),
                    y -> y.uniteAtoms(0, 0xFEL, t));
                Bench.refused("63 quotients", Bench.STATE, AtomCases::different, y -> y.uniteAtoms(1, 1L, t));
                Bench.refused("63 quotients", Bench.STATE, AtomCases::different, y -> y.uniteAtoms(1, 1L << 63, t));
            }
        });
    }

    private static void atomThatDoesNotExist() {
        String[] automata = {Bench.EMPTY, Bench.ENDS_WITH_A, Bench.WITNESSES[4], Bench.ATOMS_63};
        int[] counts = {1, 3, 32, 63};
        for (int i = 0; i < automata.length; i++) {
            String automaton = automata[i];
            int count = counts[i];
            Bench.due("all atoms", Bench.with(automaton).uniteAtoms(0, -1L >>> 64 - count, 1), 1);
            for (int bit = count; bit < 64; bit++) {
                long set = 1L << bit;
                Bench.refused(automaton + " bit " + bit, Bench.ARGUMENT, () -> Bench.with(automaton),
                    x -> x.uniteAtoms(0, set, 1));
            }
            Bench.refused("beside those that do", Bench.ARGUMENT, () -> Bench.with(automaton),
                x -> x.uniteAtoms(0, -1L, 0));
        }
        // The first atom has 7 quotients: an atom that is not there is found before the size.
        Bench.refused("and too great", Bench.ARGUMENT, x -> x.uniteAtoms(0, 1L << 8 | 1L, 1));
        Bench.refused("too great alone", Bench.STATE, x -> x.uniteAtoms(0, 1L, 1));
    }

    /** Whether no two words of up to 7 letters in one atom of a language are told apart by another language. */
    private static boolean decides(String automaton, String other) {
        Map<Integer, Boolean> answers = new TreeMap<>();
        for (String word : Bench.words(7)) {
            boolean inside = Bench.contains(other, 0, word);
            Boolean before = answers.putIfAbsent(Bench.setOf(automaton, word), inside);
            if (before != null && before != inside) {
                return false;
            }
        }
        return true;
    }

    private static void eachPairOfLanguages() {
        // What ends with a, with b, with c: whichever letter tells the words of an atom apart, it is found.
        String[] automata = {Bench.EMPTY, Bench.EVERY, Bench.ONLY_EMPTY_WORD, Bench.ONLY_A, Bench.ENDS_WITH_A,
            "010 010*", "001 001*", Bench.STARTS_WITH_A, "212 111* 222", Bench.WITHOUT_A, Bench.EVEN_LENGTH, Bench.ODD_LENGTH,
            Bench.LENGTH_1, Bench.LENGTH_4, Bench.ALL_BUT_LENGTH_4, Bench.ATOMS_7, Bench.ATOM_OF_SIZE_7,
            Bench.WITNESSES[1], Bench.WITNESSES[2], Bench.WITNESSES[5]};
        for (String automaton : automata) {
            for (String other : automata) {
                Bench.due(other + " of atoms of " + automaton, Bench.with(automaton, other).isUnionOfAtoms(0, 1),
                    decides(automaton, other));
            }
        }
    }

    private static void isUnionOfAtoms() {
        Bench.promise(31);
        Bench.test("Returns whether the language of a register is a union of atoms of the language of another one.",
            () -> {
                LanguageAtoms x = Bench.with(Bench.ENDS_WITH_A, Bench.ONLY_EMPTY_WORD, Bench.STARTS_WITH_A);
                Bench.due("the empty word is an atom", x.isUnionOfAtoms(0, 1), true);
                Bench.due("not the other way round", x.isUnionOfAtoms(1, 0), false);
                Bench.due("the first letter is not told", x.isUnionOfAtoms(0, 2), false);
                Bench.due("the last letter is not told", x.isUnionOfAtoms(2, 0), false);
            });
        Bench.test("- `register`: the register with the language that has the atoms",
            () -> Bench.registers(r -> x -> x.isUnionOfAtoms(r, 1)));
        Bench.test("- `other`: the register with the language that may be a union",
            () -> Bench.registers(r -> x -> x.isUnionOfAtoms(1, r)));
        Bench.test("Returns whether it is.", () -> {
            String[] automata = {Bench.EMPTY, Bench.EVERY, Bench.ENDS_WITH_A, Bench.LENGTH_4, Bench.WITNESSES[5]};
            for (String automaton : automata) {
                LanguageAtoms x = Bench.with(automaton, Bench.EMPTY, Bench.EVERY);
                Bench.due("the union of no atoms", x.isUnionOfAtoms(0, 1), true);
                Bench.due("the union of all atoms", x.isUnionOfAtoms(0, 2), true);
                Bench.due("itself", x.isUnionOfAtoms(0, 0), true);
                boolean trivial = automaton.length() < 5;
                Bench.due("of the only atom", x.isUnionOfAtoms(1, 0), trivial);
                Bench.due("of the only atom", x.isUnionOfAtoms(2, 0), trivial);
            }
            // The words of length 5 and more are one atom.
            LanguageAtoms x = Bench.with(Bench.LENGTH_4, "111 222 333 444 555* 555*");
            Bench.due("length 4 and more", x.isUnionOfAtoms(0, 1), true);
            Bench.set(x, 1, "111 222 333 444 555* 444");
            Bench.due("lengths 4, 6, 8, ..", x.isUnionOfAtoms(0, 1), false);
            Bench.due("the other way round", x.isUnionOfAtoms(1, 0), false);
            eachPairOfLanguages();
        });
        Bench.test("Throws `IndexOutOfBoundsException` if one of the registers does not exist", () -> {
            int[][] wrongs = {{-1, 0}, {3, 0}, {0, -1}, {0, 3}, {Bench.MIN, 0}, {0, Bench.MAX}, {3, 3}, {-1, -1}};
            for (int[] w : wrongs) {
                Bench.refused("wrong", Bench.INDEX, x -> x.isUnionOfAtoms(w[0], w[1]));
            }
        });
    }
}
