import java.util.ArrayList;
import java.util.Arrays;
import java.util.BitSet;
import java.util.HashMap;
import java.util.HashSet;
import java.util.List;
import java.util.Map;
import java.util.NoSuchElementException;
import java.util.Random;
import java.util.Set;
import java.util.TreeMap;

/**
 * Runs of chosen calls on the class and on a model of the document side by side. The model goes other ways than the
 * class: it minimizes by reversing twice, and finds all about atoms from the maps of states that words make.
 */
public final class ModelTests {
    private static final int RUNS = 1500;
    /** What an object answers after this many calls is free. */
    private static final int CALLS = 512;
    /** The most calls that a look at all registers and the word takes. */
    private static final int LOOK = 3 * (1 + 6 * 4) + 13;

    /** A complete deterministic automaton of any number of states, whose initial state is 0. */
    private record Dfa(int[][] targets, boolean[] finals) {
        int states() {
            return targets.length;
        }

        static Dfa blank(int states) {
            return new Dfa(new int[states][3], new boolean[states]);
        }

        Dfa copy() {
            int[][] rows = new int[states()][];
            for (int q = 0; q < states(); q++) {
                rows[q] = targets[q].clone();
            }
            return new Dfa(rows, finals.clone());
        }

        int run(int state, List<Integer> word) {
            int at = state;
            for (int letter : word) {
                at = targets[at][letter];
            }
            return at;
        }

        String show() {
            return Arrays.deepToString(targets) + Arrays.toString(finals);
        }
    }

    /** A nondeterministic automaton. */
    private static final class Nfa {
        private final List<List<Integer>> targets = new ArrayList<>();
        final BitSet initial = new BitSet();
        final BitSet finals = new BitSet();

        Nfa(int states) {
            for (int i = 0; i < states * 3; i++) {
                targets.add(new ArrayList<>(2));
            }
        }

        int states() {
            return targets.size() / 3;
        }

        List<Integer> targets(int state, int letter) {
            return targets.get(state * 3 + letter);
        }

        static Nfa of(Dfa dfa) {
            Nfa result = new Nfa(dfa.states());
            result.initial.set(0);
            for (int q = 0; q < dfa.states(); q++) {
                result.finals.set(q, dfa.finals[q]);
                for (int letter = 0; letter < 3; letter++) {
                    result.targets(q, letter).add(dfa.targets[q][letter]);
                }
            }
            return result;
        }

        Nfa reversed() {
            Nfa result = new Nfa(states());
            result.initial.or(finals);
            result.finals.or(initial);
            for (int q = 0; q < states(); q++) {
                for (int letter = 0; letter < 3; letter++) {
                    for (int to : targets(q, letter)) {
                        result.targets(to, letter).add(q);
                    }
                }
            }
            return result;
        }

        Dfa determinized() {
            Map<BitSet, Integer> numbers = new HashMap<>();
            List<BitSet> sets = new ArrayList<>();
            List<int[]> rows = new ArrayList<>();
            numbers.put(initial, 0);
            sets.add(initial);
            for (int i = 0; i < sets.size(); i++) {
                int[] row = new int[3];
                for (int letter = 0; letter < 3; letter++) {
                    BitSet next = new BitSet();
                    BitSet set = sets.get(i);
                    for (int q = set.nextSetBit(0); q >= 0; q = set.nextSetBit(q + 1)) {
                        for (int to : targets(q, letter)) {
                            next.set(to);
                        }
                    }
                    if (!numbers.containsKey(next)) {
                        numbers.put(next, sets.size());
                        sets.add(next);
                    }
                    row[letter] = numbers.get(next);
                }
                rows.add(row);
            }
            boolean[] accepting = new boolean[sets.size()];
            for (int i = 0; i < accepting.length; i++) {
                accepting[i] = sets.get(i).intersects(finals);
            }
            return new Dfa(rows.toArray(new int[0][]), accepting);
        }

        Dfa minimal() {
            return of(reversed().determinized()).reversed().determinized();
        }
    }

    /** All maps of the states of a minimal automaton that words make, in the order of the first words. */
    private static final class Maps {
        final Dfa base;
        final List<int[]> maps = new ArrayList<>();
        final List<List<Integer>> words = new ArrayList<>();
        final List<int[]> rows = new ArrayList<>();
        /** For the set of each atom its first word. */
        final TreeMap<Integer, List<Integer>> atoms = new TreeMap<>();

        Maps(Dfa base) {
            this.base = base;
            Map<Integer, Integer> numbers = new HashMap<>();
            int[] identity = new int[base.states()];
            for (int q = 0; q < identity.length; q++) {
                identity[q] = q;
            }
            numbers.put(code(identity), 0);
            maps.add(identity);
            words.add(List.of());
            for (int i = 0; i < maps.size(); i++) {
                atoms.putIfAbsent(pattern(maps.get(i)), words.get(i));
                int[] row = new int[3];
                for (int letter = 0; letter < 3; letter++) {
                    int[] next = maps.get(i).clone();
                    for (int q = 0; q < next.length; q++) {
                        next[q] = base.targets[next[q]][letter];
                    }
                    if (numbers.putIfAbsent(code(next), maps.size()) == null) {
                        maps.add(next);
                        List<Integer> word = new ArrayList<>(words.get(i));
                        word.add(letter);
                        words.add(word);
                    }
                    row[letter] = numbers.get(code(next));
                }
                rows.add(row);
            }
        }

        private static int code(int[] map) {
            int code = 0;
            for (int q : map) {
                code = code * 6 + q;
            }
            return code;
        }

        /** The quotients that contain the words that make a map. */
        int pattern(int[] map) {
            int set = 0;
            for (int q = 0; q < map.length; q++) {
                set |= base.finals[map[q]] ? 1 << q : 0;
            }
            return set;
        }

        int patternOf(List<Integer> word) {
            int set = 0;
            for (int q = 0; q < base.states(); q++) {
                set |= base.finals[base.run(q, word)] ? 1 << q : 0;
            }
            return set;
        }

        List<Integer> sets() {
            return new ArrayList<>(atoms.keySet());
        }

        Dfa union(Set<Integer> sets) {
            boolean[] finals = new boolean[maps.size()];
            for (int i = 0; i < finals.length; i++) {
                finals[i] = sets.contains(pattern(maps.get(i)));
            }
            return Nfa.of(new Dfa(rows.toArray(new int[0][]), finals)).minimal();
        }

        /** Whether each atom lies within a language or beside it, seen on all maps with the states of the other. */
        boolean decides(Dfa other) {
            Map<Integer, Boolean> answers = new HashMap<>();
            Set<Long> seen = new HashSet<>();
            List<int[]> queue = new ArrayList<>();
            queue.add(new int[] {0, 0});
            seen.add(0L);
            for (int i = 0; i < queue.size(); i++) {
                int map = queue.get(i)[0];
                int state = queue.get(i)[1];
                Boolean before = answers.putIfAbsent(pattern(maps.get(map)), other.finals[state]);
                if (before != null && before != other.finals[state]) {
                    return false;
                }
                for (int letter = 0; letter < 3; letter++) {
                    int[] next = {rows.get(map)[letter], other.targets[state][letter]};
                    if (seen.add(next[0] * 8L + next[1])) {
                        queue.add(next);
                    }
                }
            }
            return true;
        }
    }

    /** The document, in plain words. */
    private static final class Model {
        Dfa[] registers = {Dfa.blank(1), Dfa.blank(1), Dfa.blank(1)};
        List<Integer> word = new ArrayList<>();
        Object[] rows = new Object[2];
        Dfa[] savedRegisters = null;
        List<Integer> savedWord = null;
        private final Map<String, Maps> known = new HashMap<>();

        private static void index(int value, int bound) {
            if (value < 0 || value >= bound) {
                throw new IndexOutOfBoundsException();
            }
        }

        private static void argument(boolean fine) {
            if (!fine) {
                throw new IllegalArgumentException();
            }
        }

        private static void state(boolean fine) {
            if (!fine) {
                throw new IllegalStateException();
            }
        }

        private Dfa minimal(int register) {
            index(register, 3);
            return Nfa.of(registers[register]).minimal();
        }

        private Maps maps(int register) {
            Dfa base = minimal(register);
            return known.computeIfAbsent(base.show(), key -> new Maps(base));
        }

        private int set(Maps maps, int atom) {
            index(atom, maps.atoms.size());
            return maps.sets().get(atom);
        }

        void reset(int register, int states) {
            index(register, 3);
            argument(states >= 1 && states <= 6);
            registers[register] = Dfa.blank(states);
        }

        void setTarget(int register, int state, int letter, int target) {
            index(register, 3);
            index(state, registers[register].states());
            index(letter, 3);
            index(target, registers[register].states());
            registers[register].targets[state][letter] = target;
        }

        boolean setFinal(int register, int state, boolean accepts) {
            boolean before = isFinal(register, state);
            registers[register].finals[state] = accepts;
            return before;
        }

        int stateCount(int register) {
            index(register, 3);
            return registers[register].states();
        }

        int target(int register, int state, int letter) {
            index(register, 3);
            index(state, registers[register].states());
            index(letter, 3);
            return registers[register].targets[state][letter];
        }

        boolean isFinal(int register, int state) {
            index(register, 3);
            index(state, registers[register].states());
            return registers[register].finals[state];
        }

        void randomize(int register, int seed) {
            index(register, 3);
            Dfa dfa = registers[register];
            int x = seed;
            for (int q = 0; q < dfa.states(); q++) {
                for (int letter = 0; letter < 3; letter++) {
                    x = x * 1103515245 + 12345;
                    dfa.targets[q][letter] = (x >>> 16) % dfa.states();
                }
            }
            for (int q = 0; q < dfa.states(); q++) {
                x = x * 1103515245 + 12345;
                dfa.finals[q] = (x >>> 16) % 2 == 1;
            }
        }

        void makeWitness(int register, int n) {
            index(register, 3);
            argument(n >= 1 && n <= 6);
            Dfa dfa = Dfa.blank(n);
            for (int q = 0; q < n; q++) {
                dfa.targets[q][0] = (q + 1) % n;
                dfa.targets[q][1] = q;
                dfa.targets[q][2] = q;
            }
            if (n > 1) {
                dfa.targets[0][1] = 1;
                dfa.targets[1][1] = 0;
            }
            dfa.targets[n - 1][2] = 0;
            dfa.finals[n - 1] = true;
            registers[register] = dfa;
        }

        int appendLetter(int letter) {
            index(letter, 3);
            state(word.size() < 12);
            word.add(letter);
            return word.size();
        }

        int clearWord() {
            int before = word.size();
            word = new ArrayList<>();
            return before;
        }

        int wordLetter(int position) {
            index(position, word.size());
            return word.get(position);
        }

        boolean accepts(int register) {
            index(register, 3);
            return registers[register].finals[registers[register].run(0, word)];
        }

        int size(int register) {
            return minimal(register).states();
        }

        int minimize(int register) {
            registers[register] = minimal(register);
            return registers[register].states();
        }

        int quotientOfWord(int register) {
            return minimal(register).run(0, word);
        }

        int atomCount(int register) {
            return maps(register).atoms.size();
        }

        int atomSet(int register, int atom) {
            return set(maps(register), atom);
        }

        int atomOfWord(int register) {
            Maps maps = maps(register);
            return maps.sets().indexOf(maps.patternOf(word));
        }

        long atomTargets(int register, int atom, int letter) {
            Maps maps = maps(register);
            int from = set(maps, atom);
            index(letter, 3);
            long result = 0;
            for (int k = 0; k < maps.atoms.size(); k++) {
                List<Integer> longer = new ArrayList<>(List.of(letter));
                longer.addAll(maps.atoms.get(maps.sets().get(k)));
                result |= maps.patternOf(longer) == from ? 1L << k : 0L;
            }
            return result;
        }

        long initialAtoms(int register) {
            Maps maps = maps(register);
            long result = 0;
            for (int k = 0; k < maps.atoms.size(); k++) {
                List<Integer> first = maps.atoms.get(maps.sets().get(k));
                result |= maps.base.finals[maps.base.run(0, first)] ? 1L << k : 0L;
            }
            return result;
        }

        int finalAtom(int register) {
            Maps maps = maps(register);
            return maps.sets().indexOf(maps.patternOf(List.of()));
        }

        int takeAtomWord(int register, int atom) {
            Maps maps = maps(register);
            List<Integer> first = maps.atoms.get(set(maps, atom));
            state(first.size() <= 12);
            word = new ArrayList<>(first);
            return word.size();
        }

        int atomSize(int register, int atom) {
            Maps maps = maps(register);
            return maps.union(Set.of(set(maps, atom))).states();
        }

        private Dfa result(int operation, int first, int second) {
            argument(operation >= 0 && operation <= 4);
            index(first, 3);
            index(second, 3);
            Dfa left = registers[first];
            Dfa right = registers[second];
            return operation == 4 ? concatenation(left, right) : product(operation, left, right);
        }

        private static Dfa product(int operation, Dfa left, Dfa right) {
            int n = right.states();
            Dfa pairs = Dfa.blank(left.states() * n);
            for (int p = 0; p < left.states(); p++) {
                for (int q = 0; q < n; q++) {
                    for (int letter = 0; letter < 3; letter++) {
                        pairs.targets[p * n + q][letter] = left.targets[p][letter] * n + right.targets[q][letter];
                    }
                    boolean a = left.finals[p];
                    boolean b = right.finals[q];
                    boolean[] answers = {a | b, a & b, a & !b, a ^ b};
                    pairs.finals[p * n + q] = answers[operation];
                }
            }
            return Nfa.of(pairs).minimal();
        }

        private static Dfa concatenation(Dfa left, Dfa right) {
            int m = left.states();
            Nfa joined = new Nfa(m + right.states());
            for (int letter = 0; letter < 3; letter++) {
                for (int p = 0; p < m; p++) {
                    int next = left.targets[p][letter];
                    joined.targets(p, letter).add(next);
                    if (left.finals[next]) {
                        joined.targets(p, letter).add(m);
                    }
                }
                for (int q = 0; q < right.states(); q++) {
                    joined.targets(m + q, letter).add(m + right.targets[q][letter]);
                }
            }
            for (int q = 0; q < right.states(); q++) {
                joined.finals.set(m + q, right.finals[q]);
            }
            joined.initial.set(0);
            joined.initial.set(m, left.finals[0]);
            return joined.minimal();
        }

        private Dfa starOf(int register) {
            index(register, 3);
            Dfa dfa = registers[register];
            int n = dfa.states();
            Nfa result = new Nfa(n + 1);
            for (int letter = 0; letter < 3; letter++) {
                for (int q = 0; q < n; q++) {
                    int next = dfa.targets[q][letter];
                    result.targets(q, letter).add(next);
                    if (dfa.finals[next]) {
                        // State n is between two words of the language.
                        result.targets(q, letter).add(n);
                    }
                }
                result.targets(n, letter).addAll(result.targets(0, letter));
            }
            result.initial.set(n);
            result.finals.set(n);
            return result.minimal();
        }

        int resultSize(int operation, int first, int second) {
            return result(operation, first, second).states();
        }

        int starSize(int register) {
            return starOf(register).states();
        }

        private int store(Dfa dfa, int target) {
            state(dfa.states() <= 6);
            registers[target] = dfa.copy();
            return dfa.states();
        }

        int combine(int operation, int first, int second, int target) {
            argument(operation >= 0 && operation <= 4);
            index(first, 3);
            index(second, 3);
            index(target, 3);
            return store(result(operation, first, second), target);
        }

        int star(int source, int target) {
            index(target, 3);
            return store(starOf(source), target);
        }

        int reverse(int source, int target) {
            index(source, 3);
            index(target, 3);
            return store(Nfa.of(registers[source]).reversed().minimal(), target);
        }

        int uniteAtoms(int source, long atoms, int target) {
            index(source, 3);
            index(target, 3);
            Maps maps = maps(source);
            Set<Integer> sets = new HashSet<>();
            for (int k = 0; k < 64; k++) {
                if ((atoms >>> k & 1) == 1) {
                    argument(k < maps.atoms.size());
                    sets.add(maps.sets().get(k));
                }
            }
            return store(maps.union(sets), target);
        }

        boolean isUnionOfAtoms(int register, int other) {
            index(register, 3);
            index(other, 3);
            return maps(register).decides(registers[other]);
        }

        int takeDifference(int first, int second) {
            index(first, 3);
            index(second, 3);
            List<List<Integer>> level = List.of(List.of());
            Set<Integer> seen = new HashSet<>();
            while (!level.isEmpty()) {
                List<List<Integer>> longer = new ArrayList<>();
                for (List<Integer> candidate : level) {
                    int p = registers[first].run(0, candidate);
                    int q = registers[second].run(0, candidate);
                    if (registers[first].finals[p] != registers[second].finals[q]) {
                        state(candidate.size() <= 12);
                        word = new ArrayList<>(candidate);
                        return word.size();
                    }
                    if (seen.add(p * 6 + q)) {
                        for (int letter = 0; letter < 3; letter++) {
                            List<Integer> next = new ArrayList<>(candidate);
                            next.add(letter);
                            longer.add(next);
                        }
                    }
                }
                level = longer;
            }
            throw new NoSuchElementException();
        }

        double share(int register, int length) {
            index(register, 3);
            argument(length >= 0 && length <= 20);
            Dfa dfa = registers[register];
            long[] reached = new long[dfa.states()];
            reached[0] = 1;
            long all = 1;
            for (int n = 0; n < length; n++) {
                long[] next = new long[dfa.states()];
                for (int q = 0; q < dfa.states(); q++) {
                    for (int letter = 0; letter < 3; letter++) {
                        next[dfa.targets[q][letter]] += reached[q];
                    }
                }
                reached = next;
                all *= 3;
            }
            long inside = 0;
            for (int q = 0; q < dfa.states(); q++) {
                inside += dfa.finals[q] ? reached[q] : 0;
            }
            return (double) inside / (double) all;
        }

        void keepShares(int row, int register, int maxLength, boolean single) {
            index(row, 2);
            index(register, 3);
            argument(maxLength >= 0 && maxLength <= 20);
            float[] floats = new float[maxLength + 1];
            double[] doubles = new double[maxLength + 1];
            for (int n = 0; n <= maxLength; n++) {
                doubles[n] = share(register, n);
                floats[n] = (float) doubles[n];
            }
            rows[row] = single ? floats : doubles;
        }

        double remainder(int row, int dividend, int divisor) {
            argument(row == 0 || row == 1);
            state(rows[row] != null);
            if (rows[row] instanceof float[] floats) {
                index(dividend, floats.length);
                index(divisor, floats.length);
                if (floats[divisor] == 0) {
                    throw new ArithmeticException();
                }
                return floats[dividend] % floats[divisor];
            }
            double[] doubles = (double[]) rows[row];
            index(dividend, doubles.length);
            index(divisor, doubles.length);
            if (doubles[divisor] == 0) {
                throw new ArithmeticException();
            }
            return doubles[dividend] % doubles[divisor];
        }

        void save() {
            savedRegisters = new Dfa[] {registers[0].copy(), registers[1].copy(), registers[2].copy()};
            savedWord = new ArrayList<>(word);
        }

        void restore() {
            state(savedWord != null);
            registers = new Dfa[] {savedRegisters[0].copy(), savedRegisters[1].copy(), savedRegisters[2].copy()};
            word = new ArrayList<>(savedWord);
        }

        String show() {
            return registers[0].show() + registers[1].show() + registers[2].show() + word;
        }
    }

    private static String show(LanguageAtoms x) {
        StringBuilder text = new StringBuilder();
        for (int register = 0; register < 3; register++) {
            Dfa dfa = Dfa.blank(x.stateCount(register));
            for (int q = 0; q < dfa.states(); q++) {
                dfa.finals[q] = x.isFinal(register, q);
                for (int letter = 0; letter < 3; letter++) {
                    dfa.targets[q][letter] = x.target(register, q, letter);
                }
            }
            text.append(dfa.show());
        }
        List<Integer> word = new ArrayList<>();
        try {
            for (int i = 0; i <= 12; i++) {
                word.add(x.wordLetter(i));
            }
        } catch (IndexOutOfBoundsException e) {
            // The word has ended.
        }
        return text.append(word).toString();
    }

    private interface Call {
        Object on();
    }

    private static String answer(Call call) {
        try {
            return "" + call.on();
        } catch (RuntimeException e) {
            return e.getClass().getName();
        }
    }

    private static Call quiet(Runnable runnable) {
        return () -> {
            runnable.run();
            return "nothing";
        };
    }

    private static final Random random = new Random(20261118);

    /** A number below a bound, and now and then one that is out of range. */
    private static int pick(int bound) {
        int[] wrong = {-1, bound, bound + 1, Integer.MIN_VALUE, Integer.MAX_VALUE};
        return random.nextInt(30) == 0 ? wrong[random.nextInt(wrong.length)] : random.nextInt(Math.max(1, bound));
    }

    private static int pickAtom(Model m, int register) {
        return pick(register >= 0 && register < 3 ? m.atomCount(register) : 3);
    }

    private static long pickAtoms(Model m, int register) {
        if (register < 0 || register > 2) {
            return 1L;
        }
        Maps maps = m.maps(register);
        int count = maps.atoms.size();
        long all = count == 64 ? -1L : (1L << count) - 1;
        switch (random.nextInt(5)) {
            case 0:
                return m.initialAtoms(register);
            case 1:
                return 1L << random.nextInt(64);
            case 2:
                // The atoms within a quotient, or beside it.
                int quotient = random.nextInt(maps.base.states());
                long set = 0;
                for (int k = 0; k < count; k++) {
                    set |= (long) (maps.sets().get(k) >> quotient & 1) << k;
                }
                return random.nextBoolean() ? set : all & ~set;
            case 3:
                return random.nextLong();
            default:
                return random.nextLong() & all;
        }
    }

    private static Call[] change(LanguageAtoms x, Model m) {
        int r = pick(3);
        int states = r >= 0 && r < 3 ? m.stateCount(r) : 3;
        int q = pick(states);
        int p = pick(states);
        int letter = pick(3);
        int n = 1 + pick(random.nextInt(6) + 1);
        int seed = random.nextInt();
        boolean flag = random.nextBoolean();
        switch (random.nextInt(11)) {
            case 0:
                return new Call[] {quiet(() -> x.reset(r, n)), quiet(() -> m.reset(r, n))};
            case 1:
            case 2:
                return new Call[] {quiet(() -> x.setTarget(r, q, letter, p)),
                    quiet(() -> m.setTarget(r, q, letter, p))};
            case 3:
            case 4:
                return new Call[] {() -> x.setFinal(r, q, flag), () -> m.setFinal(r, q, flag)};
            case 5:
            case 6:
                return new Call[] {quiet(() -> x.randomize(r, seed)), quiet(() -> m.randomize(r, seed))};
            case 7:
                return new Call[] {quiet(() -> x.makeWitness(r, n)), quiet(() -> m.makeWitness(r, n))};
            case 8:
                return new Call[] {() -> x.minimize(r), () -> m.minimize(r)};
            case 9:
                return new Call[] {quiet(x::save), quiet(m::save)};
            default:
                return new Call[] {quiet(x::restore), quiet(m::restore)};
        }
    }

    private static Call[] look(LanguageAtoms x, Model m) {
        int r = pick(3);
        int states = r >= 0 && r < 3 ? m.stateCount(r) : 3;
        int q = pick(states);
        int letter = pick(3);
        int position = pick(m.word.size());
        switch (random.nextInt(13)) {
            case 0:
                return new Call[] {() -> x.stateCount(r), () -> m.stateCount(r)};
            case 1:
                return new Call[] {() -> x.target(r, q, letter), () -> m.target(r, q, letter)};
            case 2:
                return new Call[] {() -> x.isFinal(r, q), () -> m.isFinal(r, q)};
            case 3:
            case 4:
            case 5:
            case 6:
                return new Call[] {() -> x.appendLetter(letter), () -> m.appendLetter(letter)};
            case 7:
                return new Call[] {x::clearWord, m::clearWord};
            case 8:
                return new Call[] {() -> x.wordLetter(position), () -> m.wordLetter(position)};
            case 9:
                return new Call[] {() -> x.accepts(r), () -> m.accepts(r)};
            case 10:
                return new Call[] {() -> x.size(r), () -> m.size(r)};
            default:
                return new Call[] {() -> x.quotientOfWord(r), () -> m.quotientOfWord(r)};
        }
    }

    private static Call[] atoms(LanguageAtoms x, Model m) {
        int r = pick(3);
        int s = pick(3);
        int letter = pick(3);
        int atom = pickAtom(m, r);
        long set = pickAtoms(m, r);
        switch (random.nextInt(11)) {
            case 0:
                return new Call[] {() -> x.atomCount(r), () -> m.atomCount(r)};
            case 1:
                return new Call[] {() -> x.atomSet(r, atom), () -> m.atomSet(r, atom)};
            case 2:
                return new Call[] {() -> x.atomOfWord(r), () -> m.atomOfWord(r)};
            case 3:
                return new Call[] {() -> x.atomTargets(r, atom, letter), () -> m.atomTargets(r, atom, letter)};
            case 4:
                return new Call[] {() -> x.initialAtoms(r), () -> m.initialAtoms(r)};
            case 5:
                return new Call[] {() -> x.finalAtom(r), () -> m.finalAtom(r)};
            case 6:
                return new Call[] {() -> x.takeAtomWord(r, atom), () -> m.takeAtomWord(r, atom)};
            case 7:
                return new Call[] {() -> x.atomSize(r, atom), () -> m.atomSize(r, atom)};
            case 8:
            case 9:
                return new Call[] {() -> x.uniteAtoms(r, set, s), () -> m.uniteAtoms(r, set, s)};
            default:
                return new Call[] {() -> x.isUnionOfAtoms(r, s), () -> m.isUnionOfAtoms(r, s)};
        }
    }

    private static Call[] operations(LanguageAtoms x, Model m) {
        int operation = pick(5);
        int r = pick(3);
        int s = pick(3);
        int t = pick(3);
        int row = pick(2);
        int length = pick(21);
        int other = pick(21);
        boolean single = random.nextBoolean();
        switch (random.nextInt(11)) {
            case 0:
            case 1:
                return new Call[] {() -> x.resultSize(operation, r, s), () -> m.resultSize(operation, r, s)};
            case 2:
                return new Call[] {() -> x.starSize(r), () -> m.starSize(r)};
            case 3:
            case 4:
                return new Call[] {() -> x.combine(operation, r, s, t), () -> m.combine(operation, r, s, t)};
            case 5:
                return new Call[] {() -> x.star(r, s), () -> m.star(r, s)};
            case 6:
                return new Call[] {() -> x.reverse(r, s), () -> m.reverse(r, s)};
            case 7:
                return new Call[] {() -> x.takeDifference(r, s), () -> m.takeDifference(r, s)};
            case 8:
                return new Call[] {() -> x.share(r, length), () -> m.share(r, length)};
            case 9:
                return new Call[] {quiet(() -> x.keepShares(row, r, length, single)),
                    quiet(() -> m.keepShares(row, r, length, single))};
            default:
                return new Call[] {() -> x.remainder(row, length, other), () -> m.remainder(row, length, other)};
        }
    }

    private static Call[] next(LanguageAtoms x, Model m) {
        switch (random.nextInt(4)) {
            case 0:
                return change(x, m);
            case 1:
                return look(x, m);
            case 2:
                return atoms(x, m);
            default:
                return operations(x, m);
        }
    }

    private static void start(LanguageAtoms x, Model m) {
        for (int register = 0; register < 3; register++) {
            int states = 1 + random.nextInt(6);
            int seed = random.nextInt();
            x.reset(register, states);
            m.reset(register, states);
            x.randomize(register, seed);
            m.randomize(register, seed);
        }
    }

    /** Answers whether the class and the model agreed all along; the whole state is looked at now and then. */
    private static boolean agree(int run) {
        LanguageAtoms x = new LanguageAtoms();
        Model m = new Model();
        start(x, m);
        int left = CALLS - 6;
        boolean looksOften = run % 3 == 0;
        while (left > LOOK) {
            String before = m.show();
            Call[] calls = next(x, m);
            String got = answer(calls[0]);
            String due = answer(calls[1]);
            left--;
            String state = m.show();
            if (left <= LOOK || random.nextInt(looksOften ? 2 : 80) == 0) {
                state = show(x);
                left -= LOOK;
            }
            if (!got.equals(due) || !state.equals(m.show())) {
                System.out.println("run " + run + " with " + left + " calls left, on " + before + ": answered " + got
                    + " and made " + state + ", due is " + due + " and " + m.show());
                return false;
            }
        }
        return true;
    }

    public static void main(String[] args) {
        int wrong = 0;
        for (int run = 0; run < RUNS; run++) {
            wrong += agree(run) ? 0 : 1;
        }
        System.out.println(RUNS + " runs beside the model, " + wrong + " differ");
        if (wrong != 0) {
            System.exit(1);
        }
    }
}
