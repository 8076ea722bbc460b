/** The boundary cases of promises 33 to 35: shares, rows of them, and remainders. */
final class ShareCases {
    private static final double ALL_20 = 3486784401.0;

    private ShareCases() {
    }

    static void run() {
        share();
        keepShares();
        remainder();
    }

    private static LanguageAtoms languages() {
        return Bench.with(Bench.WITHOUT_A, Bench.ENDS_WITH_A, Bench.EVERY);
    }

    /** Row 0 has doubles and row 1 has floats, of the lengths 0 to 20, where no share is 0. */
    private static LanguageAtoms twoRows() {
        LanguageAtoms x = languages();
        x.keepShares(0, 0, 20, false);
        x.keepShares(1, 0, 20, true);
        return x;
    }

    /** The share of the words without a. */
    private static double without(int length) {
        long inside = 1;
        long all = 1;
        for (int i = 0; i < length; i++) {
            inside *= 2;
            all *= 3;
        }
        return (double) inside / (double) all;
    }

    private static void share() {
        Bench.promise(33);
        Bench.test("the number of these words divided by the number of all words of the length, both converted to "
            + "double.", () -> {
                String automaton = "312* 032 411* 250 125* 401";
                LanguageAtoms x = Bench.with(automaton);
                for (int length = 0; length <= 7; length++) {
                    int all = 0;
                    int inside = 0;
                    for (String word : Bench.words(7)) {
                        all += word.length() == length ? 1 : 0;
                        inside += word.length() == length && Bench.contains(automaton, 0, word) ? 1 : 0;
                    }
                    Bench.due("length " + length, x.share(0, length), (double) inside / (double) all);
                }
            });
        Bench.test("- `register`: the register, 0 to 2", () -> Bench.registers(r -> x -> x.share(r, 20)));
        Bench.test("- `length`: the length, 0 to 20", () -> {
            for (int length = 0; length <= 20; length++) {
                LanguageAtoms x = languages();
                Bench.due("without a, " + length, x.share(0, length), without(length));
                Bench.due("all words, " + length, x.share(2, length), 1.0);
            }
        });
        Bench.test("Returns the quotient.", () -> {
            LanguageAtoms x = languages();
            Bench.due("the empty word is not in it", x.share(1, 0), 0.0);
            Bench.due("the empty word is in it", x.share(0, 0), 1.0);
            // More words than an int counts.
            Bench.due("a third of all", x.share(1, 20), 1162261467.0 / ALL_20);
            Bench.due("2^20 of all", x.share(0, 20), 1048576.0 / ALL_20);
            Bench.due("two thirds of all", Bench.set(x, 0, "100* 100").share(0, 20), 2324522934.0 / ALL_20);
            Bench.due("one word of all", Bench.set(x, 0, "022* 222 222").share(0, 20), 1.0 / ALL_20);
            Bench.due("none", Bench.set(x, 0, Bench.EMPTY).share(0, 20), 0.0);
            Bench.due("the automaton stays", Bench.show(x, 1), Bench.ENDS_WITH_A);
        });
        Bench.test("Throws `IndexOutOfBoundsException` if there is no such register", () -> {
            for (int r : new int[] {-1, 3, Bench.MIN, Bench.MAX}) {
                Bench.refused("register " + r, Bench.INDEX, x -> x.share(r, 0));
                Bench.refused("register and length", Bench.INDEX, x -> x.share(r, -1));
                Bench.refused("register and length", Bench.INDEX, x -> x.share(r, 21));
            }
        });
        Bench.test("Throws `IllegalArgumentException` if the length is out of range",
            () -> Bench.range("length", 0, 20, Bench.ARGUMENT, n -> x -> x.share(0, n)));
    }

    private static void keepShares() {
        Bench.promise(34);
        Bench.test("Makes a row of the shares of the words of all lengths from 0 to a maximum; the element with the "
            + "index n is the share for the length n.", () -> {
                LanguageAtoms x = twoRows();
                // A share below 1 is its own remainder by the share of length 0, which is 1.
                for (int n = 1; n <= 20; n++) {
                    Bench.due("element " + n, x.remainder(0, n, 0), without(n));
                }
                Bench.set(x, 0, Bench.EMPTY);
                Bench.due("a row stays when its automaton changes", x.remainder(0, 20, 0), without(20));
            });
        Bench.test("Shares are converted to float by a Java cast if the elements are of type float.", () -> {
            LanguageAtoms x = twoRows();
            for (int n = 1; n <= 20; n++) {
                Bench.due("element " + n, x.remainder(1, n, 0), (double) (float) without(n));
            }
            Bench.due("they differ", (double) (float) without(1) == without(1), false);
        });
        Bench.test("- `row`: the row, 0 or 1", () -> {
            Bench.range("row", 0, 1, Bench.INDEX, w -> Bench.act(x -> x.keepShares(w, 2, 5, true)));
            LanguageAtoms x = languages();
            x.keepShares(1, 0, 2, false);
            Bench.due("row 0 is missing", Bench.row(x, 0), " IllegalStateException");
            Bench.due("row 1 is not", x.remainder(1, 2, 0), without(2));
        });
        Bench.test("- `register`: the register with the language", () -> {
            Bench.registers(r -> Bench.act(x -> x.keepShares(1, r, 5, false)));
            LanguageAtoms x = languages();
            x.keepShares(0, 1, 1, false);
            x.keepShares(1, 2, 1, false);
            Bench.due("ends with a", x.remainder(0, 0, 1), 0.0);
            Bench.due("ends with a", Bench.answer(x, y -> y.remainder(0, 0, 0)), Bench.ARITHMETIC);
            Bench.due("all words", x.remainder(1, 1, 1), 0.0);
        });
        Bench.test("- `maxLength`: the greatest length, 0 to 20", () -> {
            for (int length = 0; length <= 20; length++) {
                int n = length;
                LanguageAtoms x = languages();
                x.keepShares(0, 0, n, n % 2 == 0);
                Bench.due("the last element", x.remainder(0, n, n), 0.0);
                Bench.due("none behind it", Bench.answer(x, y -> y.remainder(0, n + 1, 0)), Bench.INDEX);
                Bench.due("none behind it", Bench.answer(x, y -> y.remainder(0, 0, n + 1)), Bench.INDEX);
            }
        });
        Bench.test("- `single`: true for elements of type float, false for elements of type double", () -> {
            LanguageAtoms x = languages();
            x.keepShares(0, 0, 20, true);
            Bench.due("float", x.remainder(0, 1, 0), (double) (float) without(1));
            x.keepShares(0, 0, 2, false);
            Bench.due("double in its place", x.remainder(0, 1, 0), without(1));
            Bench.due("the old length is gone", Bench.answer(x, y -> y.remainder(0, 3, 0)), Bench.INDEX);
            x.keepShares(0, 0, 3, true);
            Bench.due("float again", x.remainder(0, 3, 0), (double) (float) without(3));
        });
        Bench.test("Throws `IndexOutOfBoundsException` if there is no such row or register", () -> {
            int[][] wrongs = {{-1, 0}, {2, 0}, {0, -1}, {0, 3}, {Bench.MIN, 0}, {Bench.MAX, 0}, {1, Bench.MIN},
                {1, Bench.MAX}, {2, 3}};
            for (int[] w : wrongs) {
                for (int n : new int[] {0, 20, -1, 21}) {
                    Bench.refused("wrong, with length " + n, Bench.INDEX,
                        Bench.act(x -> x.keepShares(w[0], w[1], n, true)));
                }
            }
        });
        Bench.test("Throws `IllegalArgumentException` if the length is out of range", () -> {
            for (int row = 0; row < 2; row++) {
                int w = row;
                Bench.range("length", 0, 20, Bench.ARGUMENT, n -> Bench.act(x -> x.keepShares(w, 0, n, true)));
                Bench.range("length", 0, 20, Bench.ARGUMENT, n -> Bench.act(x -> x.keepShares(w, 0, n, false)));
            }
        });
    }

    private static void indexes(int row) {
        Bench.range("dividend", 0, 3, Bench.INDEX, ShareCases::shortRows, n -> x -> x.remainder(row, n, 0));
        Bench.range("divisor", 0, 3, Bench.INDEX, ShareCases::shortRows, n -> x -> x.remainder(row, 0, n));
    }

    private static LanguageAtoms shortRows() {
        LanguageAtoms x = twoRows();
        x.keepShares(0, 0, 3, false);
        x.keepShares(1, 0, 3, true);
        return x;
    }

    private static void remainder() {
        Bench.promise(35);
        Bench.test("Returns the remainder of two elements of a row by the Java operator %, in the type of the "
            + "elements; a float remainder is converted to double.", () -> {
                int differ = 0;
                for (int i = 0; i <= 20; i++) {
                    LanguageAtoms x = twoRows();
                    for (int k = 0; k <= 20; k++) {
                        double a = without(i);
                        double b = without(k);
                        double single = (float) a % (float) b;
                        Bench.due("double " + i + " " + k, x.remainder(0, i, k), a % b);
                        Bench.due("float " + i + " " + k, x.remainder(1, i, k), single);
                        differ += single == (double) (float) (a % b) ? 0 : 1;
                    }
                }
                Bench.due("the type counts", differ > 0, true);
            });
        Bench.test("- `row`: the row, 0 or 1",
            () -> Bench.range("row", 0, 1, Bench.ARGUMENT, ShareCases::twoRows, w -> x -> x.remainder(w, 1, 0)));
        Bench.test("- `dividend`: the index of the dividend", () -> {
            LanguageAtoms x = shortRows();
            Bench.due("the last", x.remainder(0, 3, 0), without(3));
            Bench.due("the last", x.remainder(1, 3, 0), (double) (float) without(3));
            Bench.due("the first", x.remainder(0, 0, 1), 1.0 % without(1));
        });
        Bench.test("- `divisor`: the index of the divisor", () -> {
            LanguageAtoms x = shortRows();
            Bench.due("the last", x.remainder(0, 0, 3), 1.0 % without(3));
            Bench.due("the last", x.remainder(1, 0, 3), (double) (1.0f % (float) without(3)));
            Bench.due("the first", x.remainder(0, 1, 0), without(1));
        });
        Bench.test("Returns the remainder.", ShareCases::extremeRemainders);
        Bench.test("Throws `IllegalArgumentException` if there is no such row", () -> {
            for (int w : new int[] {-1, 2, Bench.MIN, Bench.MAX}) {
                Bench.refused("row " + w, Bench.ARGUMENT, ShareCases::twoRows, x -> x.remainder(w, 0, 0));
                Bench.refused("with missing rows", Bench.ARGUMENT, LanguageAtoms::new, x -> x.remainder(w, 0, 0));
                Bench.refused("with a wrong index", Bench.ARGUMENT, ShareCases::twoRows, x -> x.remainder(w, -1, 21));
            }
        });
        Bench.test("Throws `IllegalStateException` if the row is missing", () -> {
            for (int i : new int[] {0, -1, 1, 21, Bench.MIN, Bench.MAX}) {
                Bench.refused("row 0", Bench.STATE, LanguageAtoms::new, x -> x.remainder(0, i, 0));
                Bench.refused("row 1", Bench.STATE, LanguageAtoms::new, x -> x.remainder(1, 0, i));
                Bench.refused("row 1 beside row 0", Bench.STATE, x -> x.remainder(1, i, i));
            }
        });
        Bench.test("Throws `IndexOutOfBoundsException` if there is no such index", () -> {
            indexes(0);
            indexes(1);
            for (int i : new int[] {-1, 6, Bench.MIN, Bench.MAX}) {
                Bench.refused("a wrong dividend by 0", Bench.INDEX, ShareCases::zeroRow, x -> x.remainder(0, i, 0));
                Bench.refused("a wrong dividend by 0", Bench.INDEX, ShareCases::zeroRow, x -> x.remainder(1, i, 5));
            }
        });
        Bench.test("Throws `ArithmeticException` if the divisor is 0", () -> {
            for (int row = 0; row < 2; row++) {
                int w = row;
                for (int i : new int[] {0, 2, 3, 4, 5}) {
                    Bench.refused("0 by 0", Bench.ARITHMETIC, ShareCases::zeroRow, x -> x.remainder(w, 0, i));
                    Bench.refused("by 0", Bench.ARITHMETIC, ShareCases::zeroRow, x -> x.remainder(w, 1, i));
                }
                Bench.taken("0 by another number", ShareCases::zeroRow, x -> x.remainder(w, 0, 1));
                Bench.taken("by another number", ShareCases::zeroRow, x -> x.remainder(w, 1, 1));
            }
        });
    }

    /** The word a alone: all shares are 0 but the one of length 1. */
    private static LanguageAtoms zeroRow() {
        LanguageAtoms x = Bench.with(Bench.ONLY_A);
        x.keepShares(0, 0, 5, false);
        x.keepShares(1, 0, 5, true);
        return x;
    }

    private static void extremeRemainders() {
        LanguageAtoms x = zeroRow();
        Bench.due("0 by a third", x.remainder(0, 0, 1), 0.0);
        Bench.due("a third by itself", x.remainder(1, 1, 1), 0.0);
        // One word of each length: the least share is 1 / 3^20, and the greatest is 1.
        Bench.set(x, 0, "022* 222 222");
        x.keepShares(0, 0, 20, false);
        x.keepShares(1, 0, 20, true);
        double least = 1.0 / ALL_20;
        Bench.due("the greatest by the least", x.remainder(0, 0, 20), 1.0 % least);
        Bench.due("the greatest by the least", x.remainder(1, 0, 20), (double) (1.0f % (float) least));
        Bench.due("the least by the greatest", x.remainder(0, 20, 0), least);
        Bench.due("the least by the greatest", x.remainder(1, 20, 0), (double) (float) least);
        Bench.due("by the next one", x.remainder(0, 19, 20), 1.0 / 1162261467.0 % least);
        Bench.due("the least by itself", x.remainder(1, 20, 20), 0.0);
    }
}
