import java.util.function.IntFunction;

/** The boundary cases of promises 1 to 9: a new object and the automata of the registers. */
final class AutomatonCases {
    private static final String STATES_6 = "000 000 000 000 000 000";

    private AutomatonCases() {
    }

    static void run() {
        newObject();
        reset();
        setTarget();
        setFinal();
        stateCount();
        target();
        isFinal();
        randomize();
        makeWitness();
    }

    private static LanguageAtoms six() {
        return Bench.with(Bench.WITNESSES[5], Bench.WITNESSES[5], Bench.WITNESSES[5]);
    }

    /** States are numbered up to the number of states of the very register: here 1, 6 and 2. */
    private static LanguageAtoms different() {
        return Bench.with(Bench.EVERY, Bench.WITNESSES[5], Bench.ENDS_WITH_A);
    }

    private static void states(IntFunction<IntFunction<Bench.Call>> calls) {
        int[] greatest = {0, 5, 1};
        for (int register = 0; register < 3; register++) {
            Bench.range("state of register " + register, 0, greatest[register], Bench.INDEX, AutomatonCases::different,
                calls.apply(register));
        }
    }

    private static void newObject() {
        Bench.promise(1);
        Bench.test("Creates a workbench in which each automaton has one state that is not final.", () -> {
            LanguageAtoms x = new LanguageAtoms();
            for (int register = 0; register < 3; register++) {
                Bench.due("stateCount", x.stateCount(register), 1);
                Bench.due("isFinal", x.isFinal(register, 0), false);
                Bench.due("accepts", x.accepts(register), false);
                Bench.due("size", x.size(register), 1);
                Bench.due("atomCount", x.atomCount(register), 1);
            }
            Bench.due("all", Bench.whole(x), "000 | 000 | 000 |  |  IllegalStateException |  IllegalStateException | "
                + "saved: IllegalStateException 000 | 000 | 000 | ");
            Bench.sample();
            Bench.due("beside another object", Bench.all(new LanguageAtoms()), "000 | 000 | 000 | ");
        });
    }

    private static void reset() {
        Bench.promise(2);
        Bench.test("Replaces an automaton by one in which all targets are state 0 and no state is final.", () -> {
            LanguageAtoms x = six();
            x.reset(1, 6);
            Bench.due("six states", Bench.show(x, 1), STATES_6);
            Bench.due("the others", Bench.show(x, 0) + "|" + Bench.show(x, 2), Bench.WITNESSES[5] + "|"
                + Bench.WITNESSES[5]);
            x.reset(0, 1);
            x.reset(0, 6);
            Bench.due("smaller and greater again", Bench.show(x, 0), STATES_6);
            x.setFinal(2, 0, true);
            x.reset(2, 1);
            Bench.due("one state", Bench.show(x, 2), Bench.EMPTY);
        });
        Bench.test("- `register`: the register, 0 to 2",
            () -> Bench.registers(r -> Bench.act(x -> x.reset(r, 1))));
        Bench.test("- `states`: the number of states, 1 to 6", () -> {
            for (int states = 1; states <= 6; states++) {
                LanguageAtoms x = Bench.sample();
                x.reset(0, states);
                Bench.due("states", Bench.show(x, 0), STATES_6.substring(0, 4 * states - 1));
            }
        });
        Bench.test("Throws `IndexOutOfBoundsException` if there is no such register", () -> {
            for (int r : new int[] {-1, 3, Bench.MIN, Bench.MAX}) {
                Bench.refused("register " + r, Bench.INDEX, Bench.act(x -> x.reset(r, 6)));
                Bench.refused("register and states", Bench.INDEX, Bench.act(x -> x.reset(r, 0)));
                Bench.refused("register and states", Bench.INDEX, Bench.act(x -> x.reset(r, 7)));
            }
        });
        Bench.test("Throws `IllegalArgumentException` if the number of states is out of range",
            () -> Bench.range("states", 1, 6, Bench.ARGUMENT, n -> Bench.act(x -> x.reset(2, n))));
    }

    private static void setTarget() {
        Bench.promise(3);
        Bench.test("Sets the target of a state and a letter.", () -> {
            LanguageAtoms x = six();
            x.setTarget(1, 5, 2, 5);
            x.setTarget(1, 0, 0, 0);
            Bench.due("first and last", Bench.show(x, 1), "010 201 322 433 544 055*");
            Bench.due("the others", Bench.show(x, 0) + Bench.show(x, 2), Bench.WITNESSES[5] + Bench.WITNESSES[5]);
            x.setTarget(1, 5, 2, 5);
            Bench.due("the same again", Bench.show(x, 1), "010 201 322 433 544 055*");
        });
        Bench.test("- `register`: the register, 0 to 2",
            () -> Bench.registers(r -> Bench.act(x -> x.setTarget(r, 0, 0, 1))));
        Bench.test("- `state`: the state", () -> states(r -> q -> Bench.act(x -> x.setTarget(r, q, 2, 0))));
        Bench.test("- `letter`: the letter, 0 to 2",
            () -> Bench.range("letter", 0, 2, Bench.INDEX, c -> Bench.act(x -> x.setTarget(0, 2, c, 1))));
        Bench.test("- `target`: the new target, a state",
            () -> states(r -> q -> Bench.act(x -> x.setTarget(r, 0, 2, q))));
        Bench.test("Throws `IndexOutOfBoundsException` if there is no such register, state, letter or target", () -> {
            int[][] wrongs = {{-1, 0, 0, 0}, {3, 0, 0, 0}, {0, -1, 0, 0}, {0, 3, 0, 0}, {0, 0, -1, 0}, {0, 0, 3, 0},
                {0, 0, 0, -1}, {0, 0, 0, 3}, {2, 2, 0, 0}, {2, 0, 0, 2}, {3, 3, 3, 3}};
            for (int[] w : wrongs) {
                Bench.refused("wrong", Bench.INDEX, Bench.act(x -> x.setTarget(w[0], w[1], w[2], w[3])));
            }
            LanguageAtoms x = six();
            x.reset(0, 2);
            Bench.due("a state that was", Bench.answer(x, Bench.act(y -> y.setTarget(0, 2, 0, 0))), Bench.INDEX);
            Bench.due("a target that was", Bench.answer(x, Bench.act(y -> y.setTarget(0, 0, 0, 5))), Bench.INDEX);
        });
    }

    private static void setFinal() {
        Bench.promise(4);
        Bench.test("Makes a state final or not.", () -> {
            LanguageAtoms x = Bench.with(Bench.EMPTY, STATES_6, Bench.EMPTY);
            x.setFinal(1, 0, true);
            x.setFinal(1, 5, true);
            Bench.due("first and last", Bench.all(x), "000 | 000* 000 000 000 000 000* | 000 | ");
            x.setFinal(1, 0, false);
            Bench.due("the last alone", Bench.all(x), "000 | 000 000 000 000 000 000* | 000 | ");
        });
        Bench.test("- `register`: the register, 0 to 2", () -> Bench.registers(r -> x -> x.setFinal(r, 0, true)));
        Bench.test("- `state`: the state", () -> states(r -> q -> x -> x.setFinal(r, q, false)));
        Bench.test("- `accepts`: whether the state is final from now on", () -> {
            LanguageAtoms x = new LanguageAtoms();
            x.setFinal(2, 0, true);
            Bench.due("final", x.isFinal(2, 0) && x.accepts(2), true);
            x.setFinal(2, 0, true);
            Bench.due("still final", x.isFinal(2, 0) && x.accepts(2), true);
            x.setFinal(2, 0, false);
            Bench.due("not final", x.isFinal(2, 0) || x.accepts(2), false);
            x.setFinal(2, 0, false);
            Bench.due("still not final", x.isFinal(2, 0) || x.accepts(2), false);
        });
        Bench.test("Returns whether it was final before.", () -> {
            LanguageAtoms x = six();
            Bench.due("was not", x.setFinal(0, 0, true), false);
            Bench.due("was", x.setFinal(0, 0, true), true);
            Bench.due("was", x.setFinal(0, 0, false), true);
            Bench.due("was not", x.setFinal(0, 0, false), false);
            Bench.due("the last state was", x.setFinal(0, 5, false), true);
            Bench.due("the last state was not", x.setFinal(0, 5, false), false);
            Bench.due("the other register's was", x.setFinal(1, 5, true), true);
        });
        Bench.test("Throws `IndexOutOfBoundsException` if there is no such register or state", () -> {
            int[][] wrongs = {{-1, 0}, {3, 0}, {0, -1}, {0, 3}, {2, 2}, {0, 32}, {-1, -1}, {Bench.MAX, Bench.MIN}};
            for (int[] w : wrongs) {
                Bench.refused("wrong", Bench.INDEX, x -> x.setFinal(w[0], w[1], true));
                Bench.refused("wrong", Bench.INDEX, x -> x.setFinal(w[0], w[1], false));
            }
        });
    }

    private static void stateCount() {
        Bench.promise(5);
        Bench.test("Returns the number of states of an automaton.", () -> {
            LanguageAtoms x = different();
            Bench.due("each register's own", "" + x.stateCount(0) + x.stateCount(1) + x.stateCount(2), "162");
            x.reset(0, 4);
            Bench.due("states that no word reaches count", x.stateCount(0), 4);
        });
        Bench.test("- `register`: the register, 0 to 2", () -> Bench.registers(r -> x -> x.stateCount(r)));
        Bench.test("Returns 1 to 6.", () -> {
            LanguageAtoms x = new LanguageAtoms();
            Bench.due("the least", x.stateCount(0), 1);
            x.reset(0, 6);
            Bench.due("the greatest", x.stateCount(0), 6);
        });
        Bench.test("Throws `IndexOutOfBoundsException` if there is no such register", () -> {
            for (int r : new int[] {-1, 3, Bench.MIN, Bench.MAX}) {
                Bench.refused("register " + r, Bench.INDEX, x -> x.stateCount(r));
            }
        });
    }

    private static void target() {
        Bench.promise(6);
        Bench.test("Returns the target of a state and a letter.", () -> {
            LanguageAtoms x = six();
            Bench.due("the first", x.target(0, 0, 0), 1);
            Bench.due("the last", x.target(0, 5, 2), 0);
            Bench.due("the greatest", x.target(2, 4, 0), 5);
        });
        Bench.test("- `register`: the register, 0 to 2", () -> Bench.registers(r -> x -> x.target(r, 0, 0)));
        Bench.test("- `state`: the state", () -> states(r -> q -> x -> x.target(r, q, 0)));
        Bench.test("- `letter`: the letter, 0 to 2",
            () -> Bench.range("letter", 0, 2, Bench.INDEX, c -> x -> x.target(1, 2, c)));
        Bench.test("Returns the target.", () -> {
            LanguageAtoms x = new LanguageAtoms();
            x.reset(1, 6);
            x.setTarget(1, 5, 0, 5);
            Bench.due("set", x.target(1, 5, 0), 5);
            Bench.due("the next letter", x.target(1, 5, 1), 0);
            Bench.due("the state before", x.target(1, 4, 2), 0);
        });
        Bench.test("Throws `IndexOutOfBoundsException` if there is no such register, state or letter", () -> {
            int[][] wrongs = {{-1, 0, 0}, {3, 0, 0}, {0, -1, 0}, {0, 3, 0}, {2, 2, 0}, {0, 0, -1}, {0, 0, 3},
                {Bench.MIN, 0, 0}, {0, Bench.MAX, 0}, {0, 0, Bench.MIN}, {3, 3, 3}};
            for (int[] w : wrongs) {
                Bench.refused("wrong", Bench.INDEX, x -> x.target(w[0], w[1], w[2]));
            }
        });
    }

    private static void isFinal() {
        Bench.promise(7);
        Bench.test("Returns whether a state is final.", () -> {
            LanguageAtoms x = six();
            for (int state = 0; state < 6; state++) {
                Bench.due("state " + state, x.isFinal(2, state), state == 5);
            }
        });
        Bench.test("- `register`: the register, 0 to 2", () -> Bench.registers(r -> x -> x.isFinal(r, 0)));
        Bench.test("- `state`: the state", () -> states(r -> q -> x -> x.isFinal(r, q)));
        Bench.test("Returns whether it is final.", () -> {
            LanguageAtoms x = different();
            Bench.due("the only state", x.isFinal(0, 0), true);
            Bench.due("the first of two", x.isFinal(2, 0), false);
            Bench.due("the last of two", x.isFinal(2, 1), true);
        });
        Bench.test("Throws `IndexOutOfBoundsException` if there is no such register or state", () -> {
            int[][] wrongs = {{-1, 0}, {3, 0}, {0, -1}, {0, 3}, {2, 2}, {0, 32}, {Bench.MIN, 0}, {0, Bench.MAX},
                {3, 3}};
            for (int[] w : wrongs) {
                Bench.refused("wrong", Bench.INDEX, x -> x.isFinal(w[0], w[1]));
            }
        });
    }

    /** The sequence in long arithmetic, where the wrap-around is written out. */
    private static String drawn(int states, int seed) {
        long x = seed & 0xFFFFFFFFL;
        long[] draws = new long[states * 4];
        for (int i = 0; i < draws.length; i++) {
            x = (x * 1103515245L + 12345L) % 4294967296L;
            draws[i] = x / 65536L % (i < states * 3 ? states : 2);
        }
        StringBuilder text = new StringBuilder();
        for (int q = 0; q < states; q++) {
            text.append(q == 0 ? "" : " ").append(draws[3 * q]).append(draws[3 * q + 1]).append(draws[3 * q + 2]);
            text.append(draws[states * 3 + q] == 1 ? "*" : "");
        }
        return text.toString();
    }

    private static void randomize() {
        Bench.promise(8);
        Bench.test("the number of states stays", () -> {
            for (int states = 1; states <= 6; states++) {
                LanguageAtoms x = Bench.with(Bench.ENDS_WITH_A, Bench.WITNESSES[states - 1], Bench.ENDS_WITH_A);
                x.randomize(1, 7);
                Bench.due("stateCount", x.stateCount(1), states);
                Bench.due("the others", Bench.show(x, 0) + Bench.show(x, 2), Bench.ENDS_WITH_A + Bench.ENDS_WITH_A);
            }
        });
        Bench.test("Sets all targets and all final states by a pseudorandom sequence", () -> {
            LanguageAtoms x = Bench.with("555* 555* 555* 555* 555* 555*");
            x.randomize(0, 3);
            Bench.due("from all final", Bench.show(x, 0), drawn(6, 3));
            x.reset(0, 6);
            x.randomize(0, 3);
            Bench.due("from none final", Bench.show(x, 0), drawn(6, 3));
        });
        Bench.test("A value x starts as the seed. Before each draw it becomes x * 1103515245 + 12345", () -> {
            // The value is 12345 at the first draw, 0 after the shift; 1103527590 and 16838 with the seed 1.
            LanguageAtoms x = new LanguageAtoms();
            x.reset(0, 6);
            x.randomize(0, 0);
            Bench.due("seed 0", x.target(0, 0, 0), 0);
            x.randomize(0, 1);
            Bench.due("seed 1", x.target(0, 0, 0), 16838 % 6);
        });
        Bench.test("with int arithmetic that wraps; the draw is (x >>> 16) % n.", () -> {
            // The seed -1 gives x = -1103502900, which is 3191464396 without its sign: 48697 after the shift.
            LanguageAtoms x = new LanguageAtoms();
            x.reset(0, 5);
            x.randomize(0, -1);
            Bench.due("a negative value", x.target(0, 0, 0), 48697 % 5);
            for (int states = 1; states <= 6; states++) {
                x.reset(0, states);
                x.randomize(0, 2026);
                Bench.due("many wraps", Bench.show(x, 0), drawn(states, 2026));
            }
        });
        Bench.test("then, for each state in order, 2 is used for n, and the state is final if the draw is 1.", () -> {
            boolean[] seen = new boolean[2];
            for (int seed = 0; seed < 40; seed++) {
                LanguageAtoms x = new LanguageAtoms();
                x.randomize(0, seed);
                Bench.due("one state", Bench.show(x, 0), drawn(1, seed));
                seen[x.isFinal(0, 0) ? 1 : 0] = true;
            }
            Bench.due("final and not", seen[0] && seen[1], true);
        });
        Bench.test("- `register`: the register, 0 to 2",
            () -> Bench.registers(r -> Bench.act(x -> x.randomize(r, 1))));
        Bench.test("- `seed`: the seed, any int", () -> {
            for (int seed : new int[] {0, 1, -1, Bench.MIN, Bench.MIN + 1, Bench.MAX - 1, Bench.MAX, 65536}) {
                for (int states : new int[] {1, 5, 6}) {
                    LanguageAtoms x = new LanguageAtoms();
                    x.reset(2, states);
                    x.randomize(2, seed);
                    Bench.due("seed " + seed, Bench.show(x, 2), drawn(states, seed));
                }
            }
        });
        Bench.test("Throws `IndexOutOfBoundsException` if there is no such register", () -> {
            for (int r : new int[] {-1, 3, Bench.MIN, Bench.MAX}) {
                Bench.refused("register " + r, Bench.INDEX, Bench.act(x -> x.randomize(r, 1)));
            }
        });
    }

    private static void makeWitness() {
        Bench.promise(9);
        Bench.test("Replaces an automaton by the witness of a number of states.", () -> {
            LanguageAtoms x = Bench.with(Bench.EVERY, "555* 555* 555* 555* 555* 555*", Bench.EVERY);
            x.makeWitness(1, 2);
            Bench.due("from six states", Bench.all(x), "000* | 110 000* | 000* | ");
            x.makeWitness(1, 6);
            Bench.due("from two states", Bench.all(x), "000* | " + Bench.WITNESSES[5] + " | 000* | ");
        });
        Bench.test("- `register`: the register, 0 to 2",
            () -> Bench.registers(r -> Bench.act(x -> x.makeWitness(r, 2))));
        Bench.test("- `states`: the number of states, 1 to 6", () -> {
            for (int states = 1; states <= 6; states++) {
                LanguageAtoms x = Bench.sample();
                x.makeWitness(2, states);
                Bench.due("witness", Bench.show(x, 2), Bench.WITNESSES[states - 1]);
            }
        });
        Bench.test("Throws `IndexOutOfBoundsException` if there is no such register", () -> {
            for (int r : new int[] {-1, 3, Bench.MIN, Bench.MAX}) {
                Bench.refused("register " + r, Bench.INDEX, Bench.act(x -> x.makeWitness(r, 6)));
                Bench.refused("register and states", Bench.INDEX, Bench.act(x -> x.makeWitness(r, 0)));
                Bench.refused("register and states", Bench.INDEX, Bench.act(x -> x.makeWitness(r, 7)));
            }
        });
        Bench.test("Throws `IllegalArgumentException` if the number of states is out of range",
            () -> Bench.range("states", 1, 6, Bench.ARGUMENT, n -> Bench.act(x -> x.makeWitness(0, n))));
    }
}
