import java.util.function.IntFunction;

/** The boundary cases of promises 25 to 29: operations, star and reversal, with results of up to 6 quotients. */
final class OperationCases {
    /** Counts of a letter modulo 6: a pair of them has all 36 pairs of quotients. */
    private static final String COUNTS_A = "100 211 322 433 544 055*";
    private static final String COUNTS_B = "010 121 232 343 454 505*";
    private static final String LENGTH_BY_3 = "111* 222 000";
    /** Lengths 3 and 5 and more; its star has lengths 0, 3, 5 and more. */
    private static final String STAR_OF_6 = "111 222 333 444* 555 555*";
    /** Lengths 3 and 4; its star has all lengths but 1, 2 and 5. */
    private static final String STAR_OF_7 = "111 222 333 444* 555* 555";

    private OperationCases() {
    }

    static void run() {
        resultSize();
        starSize();
        combine();
        star();
        reverse();
    }

    /** Two languages whose result by an operation has exactly 6 quotients. */
    private static LanguageAtoms six(int operation) {
        return operation == 4 ? Bench.with(Bench.LENGTH_1, Bench.LENGTH_3, Bench.EVERY)
            : Bench.with(Bench.EVEN_LENGTH, LENGTH_BY_3, Bench.EVERY);
    }

    /** Two languages whose result by an operation has exactly 7 quotients: odd lengths with 4, even ones without 4. */
    private static LanguageAtoms seven(int operation) {
        LanguageAtoms x;
        switch (operation) {
            case 0:
            case 3:
                x = Bench.with(Bench.LENGTH_4, Bench.ODD_LENGTH, Bench.EVERY);
                break;
            case 1:
                x = Bench.with(Bench.ALL_BUT_LENGTH_4, Bench.EVEN_LENGTH, Bench.EVERY);
                break;
            case 2:
                x = Bench.with(Bench.ALL_BUT_LENGTH_4, Bench.ODD_LENGTH, Bench.EVERY);
                break;
            default:
                x = Bench.with(Bench.LENGTH_1, Bench.LENGTH_4, Bench.EVERY);
                break;
        }
        return Bench.setWord(x, "abc");
    }

    private static void eachOperation(IntFunction<Runnable> body) {
        for (int operation = 0; operation < 5; operation++) {
            body.apply(operation).run();
        }
    }

    private static void registerRefused(IntFunction<Bench.Call> calls) {
        for (int r : new int[] {-1, 3, Bench.MIN, Bench.MAX}) {
            Bench.refused("register " + r, Bench.INDEX, calls.apply(r));
        }
    }

    private static void resultSize() {
        Bench.promise(25);
        Bench.test("Returns the size of the result of an operation.", () -> {
            LanguageAtoms x = Bench.with(Bench.EVEN_LENGTH, Bench.ODD_LENGTH, Bench.EMPTY);
            Bench.due("union", x.resultSize(0, 0, 1), 1);
            Bench.due("intersection", x.resultSize(1, 0, 1), 1);
            Bench.due("difference", x.resultSize(2, 0, 1), 2);
            Bench.due("symmetric difference", x.resultSize(3, 0, 1), 1);
            Bench.due("concatenation", x.resultSize(4, 0, 1), 2);
            Bench.due("concatenation with nothing", x.resultSize(4, 0, 2), 1);
            Bench.due("concatenation of nothing", x.resultSize(4, 2, 0), 1);
            Bench.due("the registers stay", Bench.all(x), "111* 000 | 111 000* | 000 | ");
        });
        Bench.test("- `operation`: the operation, 0 to 4",
            () -> Bench.range("operation", 0, 4, Bench.ARGUMENT, o -> x -> x.resultSize(o, 0, 1)));
        Bench.test("- `first`: the register with the first language", () -> eachOperation(o -> () -> {
            Bench.registers(r -> x -> x.resultSize(o, r, 1));
        }));
        Bench.test("- `second`: the register with the second language, possibly the same", () -> {
            eachOperation(o -> () -> Bench.registers(r -> x -> x.resultSize(o, 1, r)));
            LanguageAtoms x = Bench.with(Bench.STARTS_WITH_A, Bench.LENGTH_1);
            int[] sizes = {3, 3, 1, 1, 4};
            int[] sizesOfLength = {3, 3, 1, 1, 4};
            for (int operation = 0; operation < 5; operation++) {
                Bench.due("the same", x.resultSize(operation, 0, 0), sizes[operation]);
                Bench.due("the same", x.resultSize(operation, 1, 1), sizesOfLength[operation]);
            }
        });
        Bench.test("Returns the number of quotients of the result.", () -> {
            eachOperation(o -> () -> {
                Bench.due("six", six(o).resultSize(o, 0, 1), 6);
                Bench.due("seven", seven(o).resultSize(o, 0, 1), 7);
            });
            LanguageAtoms x = Bench.with(COUNTS_A, COUNTS_B);
            for (int operation = 0; operation < 4; operation++) {
                Bench.due("the greatest of " + operation, x.resultSize(operation, 0, 1), 36);
            }
            x.makeWitness(0, 6);
            x.makeWitness(1, 6);
            // By the theory: 6 * 2^6 - 2^5.
            Bench.due("the greatest of all", x.resultSize(4, 0, 1), 352);
            Bench.due("the greatest of all", x.resultSize(4, 0, 0), 352);
        });
        Bench.test("Throws `IllegalArgumentException` if there is no such operation", () -> {
            for (int o : new int[] {-1, 5, Bench.MIN, Bench.MAX}) {
                Bench.refused("operation " + o, Bench.ARGUMENT, x -> x.resultSize(o, 0, 1));
                Bench.refused("operation and first", Bench.ARGUMENT, x -> x.resultSize(o, -1, 1));
                Bench.refused("operation and second", Bench.ARGUMENT, x -> x.resultSize(o, 0, 3));
            }
        });
        Bench.test("Throws `IndexOutOfBoundsException` if one of the registers does not exist",
            () -> eachOperation(o -> () -> {
                int[][] wrongs = {{-1, 0}, {3, 0}, {0, -1}, {0, 3}, {Bench.MIN, 0}, {0, Bench.MAX}, {3, 3}};
                for (int[] w : wrongs) {
                    Bench.refused("wrong", Bench.INDEX, x -> x.resultSize(o, w[0], w[1]));
                }
            }));
    }

    private static void starSize() {
        Bench.promise(26);
        Bench.test("Returns the size of the star of a language.", () -> {
            LanguageAtoms x = Bench.with(Bench.EMPTY, Bench.ONLY_EMPTY_WORD, Bench.EVERY);
            Bench.due("of no word: the empty word", x.starSize(0), 2);
            Bench.due("of the empty word", x.starSize(1), 2);
            Bench.due("of all words", x.starSize(2), 1);
            Bench.due("of one letter: all words", Bench.set(x, 0, Bench.LENGTH_1).starSize(0), 1);
            Bench.due("the registers stay", Bench.all(x), "111 222* 222 | 111* 111 | 000* | ");
        });
        Bench.test("- `register`: the register, 0 to 2", () -> Bench.registers(r -> x -> x.starSize(r)));
        Bench.test("Returns the number of quotients of the star.", () -> {
            LanguageAtoms x = Bench.with(STAR_OF_6, STAR_OF_7, Bench.WITNESSES[5]);
            Bench.due("six", x.starSize(0), 6);
            Bench.due("seven", x.starSize(1), 7);
            // By the theory: 2^5 + 2^4.
            Bench.due("the greatest", x.starSize(2), 48);
        });
        Bench.test("Throws `IndexOutOfBoundsException` if there is no such register",
            () -> registerRefused(r -> x -> x.starSize(r)));
    }

    private static void combine() {
        Bench.promise(27);
        Bench.test("Stores the minimal automaton of the result of an operation in a register.", () -> {
            String[] results = {"111* 222 333* 444* 555* 000", "111* 222 333 444 555 000", "111 222 333* 444 555* 000",
                "111 222 333* 444* 555* 000", Bench.LENGTH_4};
            eachOperation(o -> () -> {
                LanguageAtoms x = Bench.setWord(six(o), "abc");
                String sources = Bench.show(x, 0) + " | " + Bench.show(x, 1);
                x.combine(o, 0, 1, 2);
                Bench.due("operation " + o, Bench.all(x), sources + " | " + results[o] + " | abc");
            });
            // The order counts: of 0, 2, 4, .. and 0, 3, 6, .. the latter without the former is 3, 9, 15, ..
            LanguageAtoms x = six(2);
            x.combine(2, 1, 0, 2);
            Bench.due("difference", Bench.show(x, 2), "111 222 333 444* 555 000");
        });
        Bench.test("- `operation`: the operation, 0 to 4", () -> Bench.range("operation", 0, 4, Bench.ARGUMENT,
            () -> Bench.with(Bench.EVEN_LENGTH, Bench.ODD_LENGTH), o -> x -> x.combine(o, 0, 1, 2)));
        Bench.test("- `first`: the register with the first language", () -> eachOperation(o -> () -> {
            Bench.range("first", 0, 2, Bench.INDEX, () -> Bench.with(Bench.EVEN_LENGTH, Bench.ODD_LENGTH,
                Bench.LENGTH_1), r -> x -> x.combine(o, r, 1, 2));
        }));
        Bench.test("- `second`: the register with the second language", () -> eachOperation(o -> () -> {
            Bench.range("second", 0, 2, Bench.INDEX, () -> Bench.with(Bench.EVEN_LENGTH, Bench.ODD_LENGTH,
                Bench.LENGTH_1), r -> x -> x.combine(o, 1, r, 2));
        }));
        Bench.test("- `target`: the register that gets the result; all registers may be the same",
            OperationCases::anyTarget);
        Bench.test("Returns the number of states.", () -> {
            LanguageAtoms x = Bench.with(Bench.EVEN_LENGTH, Bench.LENGTH_4);
            Bench.due("the least", x.combine(2, 1, 1, 2), 1);
            Bench.due("stateCount", x.stateCount(2), 1);
            Bench.due("the greatest", x.combine(1, 0, 1, 2), 6);
            Bench.due("stateCount", x.stateCount(2), 6);
        });
        Bench.test("Throws `IllegalArgumentException` if there is no such operation", () -> {
            for (int o : new int[] {-1, 5, Bench.MIN, Bench.MAX}) {
                Bench.refused("operation " + o, Bench.ARGUMENT, x -> x.combine(o, 0, 1, 2));
                Bench.refused("operation and first", Bench.ARGUMENT, x -> x.combine(o, -1, 1, 2));
                Bench.refused("operation and second", Bench.ARGUMENT, x -> x.combine(o, 0, 3, 2));
                Bench.refused("operation and target", Bench.ARGUMENT, x -> x.combine(o, 0, 1, 3));
            }
        });
        Bench.test("Throws `IndexOutOfBoundsException` if one of the registers does not exist",
            () -> eachOperation(o -> () -> {
                int[][] wrongs = {{-1, 0, 0}, {3, 0, 0}, {0, -1, 0}, {0, 3, 0}, {0, 0, -1}, {0, 0, 3},
                    {Bench.MIN, 0, 0}, {0, Bench.MAX, 0}, {0, 0, Bench.MIN}, {0, 0, Bench.MAX}, {3, 3, 3}};
                for (int[] w : wrongs) {
                    Bench.refused("wrong", Bench.INDEX, x -> x.combine(o, w[0], w[1], w[2]));
                }
                for (int t : new int[] {-1, 3}) {
                    Bench.refused("target and size", Bench.INDEX, () -> seven(o), x -> x.combine(o, 0, 1, t));
                }
            }));
        Bench.test("Throws `IllegalStateException` if the result has more than 6 quotients",
            () -> eachOperation(o -> () -> {
                for (int target = 0; target < 3; target++) {
                    int t = target;
                    Bench.taken("six quotients", () -> six(o), x -> x.combine(o, 0, 1, t));
                    Bench.refused("seven quotients", Bench.STATE, () -> seven(o), x -> x.combine(o, 0, 1, t));
                }
                Bench.refused("many quotients", Bench.STATE, () -> Bench.with(COUNTS_A, COUNTS_B),
                    x -> x.combine(o, 0, 1, 2));
            }));
    }

    private static void anyTarget() {
        LanguageAtoms x = Bench.with(Bench.EVEN_LENGTH, LENGTH_BY_3, Bench.EVERY);
        x.combine(1, 0, 1, 0);
        Bench.due("the first", Bench.all(x), "111* 222 333 444 555 000 | 111* 222 000 | 000* | ");
        x = Bench.with(Bench.EVEN_LENGTH, LENGTH_BY_3, Bench.EVERY);
        x.combine(1, 0, 1, 1);
        Bench.due("the second", Bench.all(x), "111* 000 | 111* 222 333 444 555 000 | 000* | ");
        // Of its own words: a union is the same, a difference nothing, and length 1 twice is length 2.
        String[] results = {Bench.LENGTH_1, Bench.LENGTH_1, Bench.EMPTY, Bench.EMPTY, "111 222 333* 333"};
        eachOperation(o -> () -> {
            for (int register = 0; register < 3; register++) {
                LanguageAtoms y = Bench.with(Bench.LENGTH_1, Bench.LENGTH_1, Bench.LENGTH_1);
                Bench.due("states", y.combine(o, register, register, register), results[o].split(" ").length);
                Bench.due("all the same", Bench.show(y, register), results[o]);
                Bench.due("the next one stays", Bench.show(y, (register + 1) % 3), Bench.LENGTH_1);
            }
            Bench.range("target", 0, 2, Bench.INDEX, () -> six(o), r -> y -> y.combine(o, 0, 1, r));
        });
    }

    private static void star() {
        Bench.promise(28);
        Bench.test("Stores the minimal automaton of the star of a language in a register.", () -> {
            String[][] pairs = {{Bench.EMPTY, Bench.ONLY_EMPTY_WORD}, {Bench.ONLY_EMPTY_WORD, Bench.ONLY_EMPTY_WORD},
                {Bench.EVERY, Bench.EVERY}, {Bench.LENGTH_1, Bench.EVERY}, {Bench.LENGTH_3, "111* 222 000"},
                {Bench.ONLY_A, "011* 111"}, {Bench.STARTS_WITH_A, "122* 111* 222"}};
            for (String[] pair : pairs) {
                LanguageAtoms x = Bench.setWord(Bench.with(pair[0], Bench.LENGTH_4, Bench.LENGTH_4), "abc");
                Bench.due("states", x.star(0, 1), pair[1].split(" ").length);
                Bench.due("all", Bench.all(x), pair[0] + " | " + pair[1] + " | " + Bench.LENGTH_4 + " | abc");
            }
        });
        Bench.test("- `source`: the register with the language", () -> Bench.registers(r -> x -> x.star(r, 0)));
        Bench.test("- `target`: the register that gets the result, possibly the same", () -> {
            Bench.registers(r -> x -> x.star(1, r));
            for (int register = 0; register < 3; register++) {
                LanguageAtoms x = Bench.with(STAR_OF_6, STAR_OF_6, STAR_OF_6);
                x.star(register, register);
                Bench.due("the same", Bench.show(x, register), "111* 222 333 444* 555 555*");
                Bench.due("the next one stays", Bench.show(x, (register + 1) % 3), STAR_OF_6);
            }
        });
        Bench.test("Returns the number of states.", () -> {
            LanguageAtoms x = Bench.with(Bench.EVERY, STAR_OF_6);
            Bench.due("the least", x.star(0, 2), 1);
            Bench.due("stateCount", x.stateCount(2), 1);
            Bench.due("the greatest", x.star(1, 2), 6);
            Bench.due("stateCount", x.stateCount(2), 6);
        });
        Bench.test("Throws `IndexOutOfBoundsException` if one of the registers does not exist", () -> {
            int[][] wrongs = {{-1, 1}, {3, 1}, {1, -1}, {1, 3}, {Bench.MIN, 1}, {1, Bench.MAX}, {3, 3}};
            for (int[] w : wrongs) {
                Bench.refused("wrong", Bench.INDEX, x -> x.star(w[0], w[1]));
            }
            for (int t : new int[] {-1, 3}) {
                Bench.refused("target and size", Bench.INDEX, () -> Bench.with(STAR_OF_7), x -> x.star(0, t));
            }
        });
        Bench.test("Throws `IllegalStateException` if the star has more than 6 quotients", () -> {
            for (int target = 0; target < 3; target++) {
                int t = target;
                Bench.taken("six quotients", () -> Bench.with(STAR_OF_6), x -> x.star(0, t));
                Bench.refused("seven quotients", Bench.STATE, () -> Bench.setWord(Bench.with(STAR_OF_7, Bench.ONLY_A,
                    Bench.EVERY), "ab"), x -> x.star(0, t));
                Bench.refused("48 quotients", Bench.STATE, () -> Bench.with(Bench.WITNESSES[5]), x -> x.star(0, t));
            }
        });
    }

    private static void reverse() {
        Bench.promise(29);
        Bench.test("Stores the minimal automaton of the reversal of a language in a register.", () -> {
            // The word abc alone, and cba alone.
            String[][] pairs = {{"144 424 443 444* 444", "112 111 131 411 111*"}, {Bench.EMPTY, Bench.EMPTY},
                {Bench.EVERY, Bench.EVERY}, {Bench.ONLY_EMPTY_WORD, Bench.ONLY_EMPTY_WORD},
                {Bench.ENDS_WITH_A, Bench.STARTS_WITH_A}, {Bench.STARTS_WITH_A, Bench.ENDS_WITH_A},
                {"000 123* 234 345* 450 501*", Bench.EMPTY}};
            for (String[] pair : pairs) {
                LanguageAtoms x = Bench.setWord(Bench.with(pair[0], Bench.LENGTH_4, Bench.LENGTH_4), "abc");
                Bench.due("states", x.reverse(0, 1), pair[1].split(" ").length);
                Bench.due("all", Bench.all(x), pair[0] + " | " + pair[1] + " | " + Bench.LENGTH_4 + " | abc");
            }
        });
        Bench.test("The size of the reversal is the number of atoms of the language.", () -> {
            for (String automaton : new String[] {Bench.EMPTY, Bench.EVERY, Bench.ENDS_WITH_A, Bench.LENGTH_4,
                Bench.STARTS_WITH_A, Bench.WITNESSES[1]}) {
                LanguageAtoms x = Bench.with(automaton);
                Bench.due(automaton, x.reverse(0, 1), x.atomCount(0));
                Bench.due(automaton, x.size(1), x.atomCount(0));
            }
        });
        Bench.test("- `source`: the register with the language", () -> Bench.range("source", 0, 2, Bench.INDEX,
            () -> Bench.with(Bench.ENDS_WITH_A, Bench.LENGTH_4, Bench.ONLY_A), r -> x -> x.reverse(r, 0)));
        Bench.test("- `target`: the register that gets the result, possibly the same", () -> {
            Bench.registers(r -> x -> x.reverse(2, r));
            for (int register = 0; register < 3; register++) {
                LanguageAtoms x = Bench.with(Bench.ENDS_WITH_A, Bench.ENDS_WITH_A, Bench.ENDS_WITH_A);
                x.reverse(register, register);
                Bench.due("the same", Bench.show(x, register), Bench.STARTS_WITH_A);
                Bench.due("the next one stays", Bench.show(x, (register + 1) % 3), Bench.ENDS_WITH_A);
            }
        });
        Bench.test("Returns the number of states.", () -> {
            LanguageAtoms x = Bench.with(Bench.EMPTY, Bench.LENGTH_4);
            Bench.due("the least", x.reverse(0, 2), 1);
            Bench.due("stateCount", x.stateCount(2), 1);
            Bench.due("the greatest", x.reverse(1, 2), 6);
            Bench.due("the greatest", Bench.show(x, 2), Bench.LENGTH_4);
        });
        Bench.test("Throws `IndexOutOfBoundsException` if one of the registers does not exist", () -> {
            int[][] wrongs = {{-1, 1}, {3, 1}, {1, -1}, {1, 3}, {Bench.MIN, 1}, {1, Bench.MAX}, {3, 3}};
            for (int[] w : wrongs) {
                Bench.refused("wrong", Bench.INDEX, x -> x.reverse(w[0], w[1]));
            }
            for (int t : new int[] {-1, 3}) {
                Bench.refused("target and size", Bench.INDEX, x -> x.reverse(0, t));
            }
        });
        Bench.test("Throws `IllegalStateException` if the reversal has more than 6 quotients", () -> {
            Bench.due("seven quotients", Bench.countQuotients(word -> Bench.contains(Bench.ATOMS_7, 0,
                new StringBuilder(word).reverse().toString())), 7);
            for (int target = 0; target < 3; target++) {
                int t = target;
                Bench.taken("six quotients", () -> Bench.with(Bench.LENGTH_4), x -> x.reverse(0, t));
                Bench.refused("seven quotients", Bench.STATE, () -> Bench.setWord(Bench.with(Bench.ATOMS_7,
                    Bench.ONLY_A, Bench.EVERY), "ab"), x -> x.reverse(0, t));
                Bench.refused("64 quotients", Bench.STATE, () -> Bench.with(Bench.WITNESSES[5]), x -> x.reverse(0, t));
            }
        });
    }
}
