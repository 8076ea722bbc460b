import java.util.ArrayList;
import java.util.List;
import java.util.function.Supplier;

/**
 * One method for each promise of the document: ordinary inputs, the edges that it names, and wrong inputs. No object is
 * used for more than 512 calls.
 */
public final class PromiseTests {
    private static final int MIN = Integer.MIN_VALUE;
    private static final int MAX = Integer.MAX_VALUE;
    private static final String INDEX = "IndexOutOfBoundsException";
    private static final String ARGUMENT = "IllegalArgumentException";
    private static final String STATE = "IllegalStateException";
    private static int wrong = 0;
    private static int promise = 0;

    private static void due(String what, Object got, Object want) {
        if (!want.equals(got)) {
            wrong++;
            System.out.println("promise " + promise + ": " + what + " answered " + got + ", due is " + want);
        }
    }

    private static void dueThrow(String what, String want, Supplier<Object> call) {
        String got;
        try {
            got = "" + call.get();
        } catch (RuntimeException e) {
            got = e.getClass().getSimpleName();
        }
        due(what, got, want);
    }

    private static Object run(Runnable call) {
        call.run();
        return "nothing";
    }

    private static void setWord(LanguageAtoms x, String letters) {
        x.clearWord();
        for (char c : letters.toCharArray()) {
            x.appendLetter(c - 'a');
        }
    }

    private static String word(LanguageAtoms x) {
        StringBuilder text = new StringBuilder();
        for (int i = 0; i < 12; i++) {
            try {
                text.append((char) ('a' + x.wordLetter(i)));
            } catch (IndexOutOfBoundsException e) {
                break;
            }
        }
        return text.toString();
    }

    /** An automaton as text: a group for each state, its targets and a star if it is final. */
    private static String show(LanguageAtoms x, int register) {
        List<String> states = new ArrayList<>();
        for (int q = 0; q < x.stateCount(register); q++) {
            states.add("" + x.target(register, q, 0) + x.target(register, q, 1) + x.target(register, q, 2)
                + (x.isFinal(register, q) ? "*" : ""));
        }
        return String.join(" ", states);
    }

    private static void set(LanguageAtoms x, int register, String text) {
        String[] states = text.split(" ");
        x.reset(register, states.length);
        for (int q = 0; q < states.length; q++) {
            for (int letter = 0; letter < 3; letter++) {
                x.setTarget(register, q, letter, states[q].charAt(letter) - '0');
            }
            x.setFinal(register, q, states[q].endsWith("*"));
        }
    }

    private static String all(LanguageAtoms x) {
        return show(x, 0) + " | " + show(x, 1) + " | " + show(x, 2) + " | " + word(x);
    }

    private static LanguageAtoms sample() {
        LanguageAtoms x = new LanguageAtoms();
        x.makeWitness(0, 3);
        set(x, 1, "012* 111 210");
        set(x, 2, "100 100*");
        setWord(x, "abc");
        return x;
    }

    /** Languages over the letters as short automata. */
    private static final String EMPTY = "000";
    private static final String EVERY = "000*";
    private static final String ONLY_EMPTY_WORD = "111* 111";
    private static final String ONLY_A = "122 222* 222";
    private static final String ENDS_WITH_A = "100 100*";
    private static final String STARTS_WITH_A = "122 111* 222";
    private static final String EVEN_LENGTH = "111* 000";
    private static final String[] WITNESSES = {"000*", "110 000*", "110 201 020*", "110 201 322 030*",
        "110 201 322 433 040*", "110 201 322 433 544 050*"};

    private static void newObject() {
        LanguageAtoms x = new LanguageAtoms();
        due("all", all(x), "000 | 000 | 000 | ");
        dueThrow("restore", STATE, () -> run(x::restore));
        dueThrow("remainder row 0", STATE, () -> x.remainder(0, 0, 0));
        dueThrow("remainder row 1", STATE, () -> x.remainder(1, 0, 0));
        LanguageAtoms y = sample();
        due("another object", all(x), "000 | 000 | 000 | ");
        due("sample", all(y), "110 201 020* | 012* 111 210 | 100 100* | abc");
    }

    private static void reset() {
        for (int states = 1; states <= 6; states++) {
            LanguageAtoms x = sample();
            x.makeWitness(1, 6);
            x.reset(1, states);
            due("reset", show(x, 1), "000 000 000 000 000 000".substring(0, 4 * states - 1));
            due("others", show(x, 0) + show(x, 2) + word(x), "110 201 020*100 100*abc");
        }
        LanguageAtoms x = sample();
        x.makeWitness(0, 6);
        x.reset(0, 2);
        x.reset(0, 6);
        due("no remnants", show(x, 0), "000 000 000 000 000 000");
        String before = all(x);
        for (int register : new int[] {-1, 3, MIN, MAX}) {
            dueThrow("register", INDEX, () -> run(() -> x.reset(register, 1)));
            dueThrow("register first", INDEX, () -> run(() -> x.reset(register, 0)));
        }
        for (int states : new int[] {0, 7, -1, MIN, MAX}) {
            dueThrow("states", ARGUMENT, () -> run(() -> x.reset(0, states)));
        }
        due("unchanged", all(x), before);
    }

    private static void setTarget() {
        LanguageAtoms x = new LanguageAtoms();
        x.reset(1, 6);
        x.setTarget(1, 5, 2, 5);
        x.setTarget(1, 0, 0, 3);
        x.setTarget(1, 2, 1, 4);
        due("set", show(x, 1), "300 000 040 000 000 005");
        x.reset(0, 2);
        String before = all(x);
        int[][] wrongs = {{-1, 0, 0, 0}, {3, 0, 0, 0}, {0, -1, 0, 0}, {0, 2, 0, 0}, {0, 0, -1, 0}, {0, 0, 3, 0},
            {0, 0, 0, -1}, {0, 0, 0, 2}, {MIN, 0, 0, 0}, {0, MAX, 0, 0}, {0, 0, MIN, 0}, {0, 0, 0, MAX}, {2, 0, 0, 1},
            {2, 1, 0, 0}};
        for (int[] w : wrongs) {
            dueThrow("wrong", INDEX, () -> run(() -> x.setTarget(w[0], w[1], w[2], w[3])));
        }
        due("unchanged", all(x), before);
    }

    private static void setFinal() {
        LanguageAtoms x = new LanguageAtoms();
        x.reset(2, 6);
        due("first", x.setFinal(2, 5, true), false);
        due("again", x.setFinal(2, 5, true), true);
        due("only it", show(x, 2), "000 000 000 000 000 000*");
        due("off", x.setFinal(2, 5, false), true);
        due("off again", x.setFinal(2, 5, false), false);
        due("none", show(x, 2), "000 000 000 000 000 000");
        x.setFinal(2, 0, true);
        x.setFinal(2, 1, true);
        x.setFinal(2, 0, false);
        due("one stays", show(x, 2), "000 000* 000 000 000 000");
        String before = all(x);
        int[][] wrongs = {{-1, 0}, {3, 0}, {2, -1}, {2, 6}, {0, 1}, {MIN, 0}, {MAX, 0}, {0, MIN}, {0, MAX}};
        for (int[] w : wrongs) {
            dueThrow("wrong", INDEX, () -> x.setFinal(w[0], w[1], true));
        }
        due("unchanged", all(x), before);
    }

    private static void stateCount() {
        LanguageAtoms x = new LanguageAtoms();
        due("new", x.stateCount(2), 1);
        for (int states = 1; states <= 6; states++) {
            x.reset(2, states);
            due("reset", x.stateCount(2), states);
        }
        for (int register : new int[] {-1, 3, MIN, MAX}) {
            dueThrow("register", INDEX, () -> x.stateCount(register));
        }
    }

    private static void target() {
        LanguageAtoms x = sample();
        due("target", x.target(0, 1, 0), 2);
        due("target", x.target(0, 1, 1), 0);
        due("target", x.target(0, 2, 2), 0);
        due("target", x.target(1, 0, 2), 2);
        int[][] wrongs = {{-1, 0, 0}, {3, 0, 0}, {0, -1, 0}, {0, 3, 0}, {0, 0, -1}, {0, 0, 3}, {2, 2, 0}, {MAX, 0, 0},
            {0, MIN, 0}, {0, MAX, 0}, {0, 0, MAX}};
        for (int[] w : wrongs) {
            dueThrow("wrong", INDEX, () -> x.target(w[0], w[1], w[2]));
        }
    }

    private static void isFinal() {
        LanguageAtoms x = sample();
        due("final", x.isFinal(0, 2), true);
        due("not final", x.isFinal(0, 0), false);
        due("final", x.isFinal(1, 0), true);
        int[][] wrongs = {{-1, 0}, {3, 0}, {0, -1}, {0, 3}, {2, 2}, {MAX, 0}, {0, MIN}, {0, MAX}, {0, 32}};
        for (int[] w : wrongs) {
            dueThrow("wrong", INDEX, () -> x.isFinal(w[0], w[1]));
        }
    }

    private static String drawn(int states, int seed) {
        int x = seed;
        int[] targets = new int[states * 3];
        for (int i = 0; i < targets.length; i++) {
            x = x * 1103515245 + 12345;
            targets[i] = (x >>> 16) % states;
        }
        StringBuilder text = new StringBuilder();
        for (int q = 0; q < states; q++) {
            x = x * 1103515245 + 12345;
            text.append(q == 0 ? "" : " ").append(targets[3 * q]).append(targets[3 * q + 1]).append(targets[3 * q + 2])
                .append((x >>> 16) % 2 == 1 ? "*" : "");
        }
        return text.toString();
    }

    private static void randomize() {
        for (int states = 1; states <= 6; states++) {
            LanguageAtoms x = sample();
            for (int seed : new int[] {0, 1, -1, 42, -7, MIN, MAX, 123456789}) {
                x.makeWitness(1, states);
                x.randomize(1, seed);
                due("states " + states + " seed " + seed, show(x, 1), drawn(states, seed));
            }
            due("others", show(x, 0) + show(x, 2) + word(x), "110 201 020*100 100*abc");
        }
        LanguageAtoms x = sample();
        String before = all(x);
        for (int register : new int[] {-1, 3, MIN, MAX}) {
            dueThrow("register", INDEX, () -> run(() -> x.randomize(register, 1)));
        }
        due("unchanged", all(x), before);
    }

    private static void makeWitness() {
        LanguageAtoms x = sample();
        for (int states = 6; states >= 1; states--) {
            x.randomize(2, states);
            x.makeWitness(2, states);
            due("witness " + states, show(x, 2), WITNESSES[states - 1]);
        }
        String before = all(x);
        for (int register : new int[] {-1, 3, MIN, MAX}) {
            dueThrow("register", INDEX, () -> run(() -> x.makeWitness(register, 1)));
            dueThrow("register first", INDEX, () -> run(() -> x.makeWitness(register, 7)));
        }
        for (int states : new int[] {0, 7, -1, MIN, MAX}) {
            dueThrow("states", ARGUMENT, () -> run(() -> x.makeWitness(2, states)));
        }
        due("unchanged", all(x), before);
    }

    private static void appendLetter() {
        LanguageAtoms x = new LanguageAtoms();
        for (int i = 0; i < 12; i++) {
            due("length", x.appendLetter(i % 3), i + 1);
        }
        dueThrow("full", STATE, () -> x.appendLetter(0));
        dueThrow("letter first", INDEX, () -> x.appendLetter(3));
        due("word", word(x), "abcabcabcabc");
        x.clearWord();
        x.appendLetter(2);
        for (int letter : new int[] {-1, 3, MIN, MAX}) {
            dueThrow("letter", INDEX, () -> x.appendLetter(letter));
        }
        due("word", word(x), "c");
    }

    private static void clearWord() {
        LanguageAtoms x = new LanguageAtoms();
        due("empty", x.clearWord(), 0);
        setWord(x, "abcabcabcabc");
        due("full", x.clearWord(), 12);
        due("empty again", x.clearWord(), 0);
        due("word", word(x), "");
        due("new letters", x.appendLetter(1), 1);
        due("word", word(x), "b");
    }

    private static void wordLetter() {
        LanguageAtoms x = sample();
        due("letter", x.wordLetter(0), 0);
        due("letter", x.wordLetter(1), 1);
        due("letter", x.wordLetter(2), 2);
        for (int position : new int[] {-1, 3, 12, MIN, MAX}) {
            dueThrow("position", INDEX, () -> x.wordLetter(position));
        }
        x.clearWord();
        dueThrow("empty", INDEX, () -> x.wordLetter(0));
    }

    private static void accepts() {
        LanguageAtoms x = new LanguageAtoms();
        set(x, 0, ENDS_WITH_A);
        set(x, 1, STARTS_WITH_A);
        set(x, 2, ONLY_EMPTY_WORD);
        String[] words = {"", "a", "b", "ab", "ba", "aba", "cccccccccccc", "accccccccccc", "ccccccccccca"};
        for (String w : words) {
            setWord(x, w);
            due("ends with a: " + w, x.accepts(0), w.endsWith("a"));
            due("starts with a: " + w, x.accepts(1), w.startsWith("a"));
            due("only empty: " + w, x.accepts(2), w.isEmpty());
            due("word stays", word(x), w);
        }
        for (int register : new int[] {-1, 3, MIN, MAX}) {
            dueThrow("register", INDEX, () -> x.accepts(register));
        }
    }

    private static void size() {
        LanguageAtoms x = new LanguageAtoms();
        String[] languages = {EMPTY, EVERY, ONLY_EMPTY_WORD, ONLY_A, ENDS_WITH_A, STARTS_WITH_A, EVEN_LENGTH,
            "111 222 333 000", "000* 111", "123* 123* 000* 321*", "111* 222 333* 444 555* 000"};
        int[] sizes = {1, 1, 2, 3, 2, 3, 2, 1, 1, 1, 2};
        for (int i = 0; i < languages.length; i++) {
            set(x, 1, languages[i]);
            due(languages[i], x.size(1), sizes[i]);
            due("stays", show(x, 1), languages[i]);
        }
        for (int states = 1; states <= 6; states++) {
            x.makeWitness(2, states);
            due("witness", x.size(2), states);
        }
        for (int register : new int[] {-1, 3, MIN, MAX}) {
            dueThrow("register", INDEX, () -> x.size(register));
        }
    }

    private static void minimize() {
        LanguageAtoms x = new LanguageAtoms();
        String[] languages = {"111* 222 333* 444 555* 000", "000* 111", "300* 111 222 122*", "210 111* 222",
            "543 111* 222* 333* 444 555*"};
        String[] minimal = {EVEN_LENGTH, EVERY, "100* 222* 222", "120 111 222*", "121 111* 222"};
        for (int i = 0; i < languages.length; i++) {
            set(x, 1, languages[i]);
            due("count of " + languages[i], x.minimize(1), minimal[i].split(" ").length);
            due("minimal of " + languages[i], show(x, 1), minimal[i]);
        }
        x.makeWitness(2, 6);
        due("witness", x.minimize(2), 6);
        due("witness stays", show(x, 2), WITNESSES[5]);
        String before = all(x);
        for (int register : new int[] {-1, 3, MIN, MAX}) {
            dueThrow("register", INDEX, () -> x.minimize(register));
        }
        due("unchanged", all(x), before);
    }

    private static void quotientOfWord() {
        LanguageAtoms x = new LanguageAtoms();
        // State 3 is reached by a, state 1 by b, state 2 by c; 2 and 1 hold the same words.
        set(x, 0, "312 111* 222* 333");
        String[] words = {"", "a", "b", "c", "aaa", "cab"};
        int[] quotients = {0, 1, 2, 2, 1, 2};
        for (int i = 0; i < words.length; i++) {
            setWord(x, words[i]);
            due(words[i], x.quotientOfWord(0), quotients[i]);
        }
        due("stays", show(x, 0), "312 111* 222* 333");
        x.makeWitness(1, 6);
        setWord(x, "aaaaa");
        due("witness", x.quotientOfWord(1), 5);
        x.appendLetter(2);
        due("witness", x.quotientOfWord(1), 0);
        for (int register : new int[] {-1, 3, MIN, MAX}) {
            dueThrow("register", INDEX, () -> x.quotientOfWord(register));
        }
    }

    private static void atomCount() {
        LanguageAtoms x = new LanguageAtoms();
        String[] languages = {EMPTY, EVERY, ONLY_EMPTY_WORD, ONLY_A, ENDS_WITH_A, STARTS_WITH_A, EVEN_LENGTH};
        int[] counts = {1, 1, 2, 3, 3, 2, 2};
        for (int i = 0; i < languages.length; i++) {
            set(x, 1, languages[i]);
            due(languages[i], x.atomCount(1), counts[i]);
        }
        int[] witnessCounts = {1, 4, 8, 16, 32, 64};
        for (int states = 1; states <= 6; states++) {
            x.makeWitness(2, states);
            due("witness " + states, x.atomCount(2), witnessCounts[states - 1]);
        }
        for (int register : new int[] {-1, 3, MIN, MAX}) {
            dueThrow("register", INDEX, () -> x.atomCount(register));
        }
    }

    private static void atomSet() {
        LanguageAtoms x = new LanguageAtoms();
        // Words: the rest, the empty word in quotient 1, those that end with a in both.
        set(x, 0, ENDS_WITH_A);
        due("rest", x.atomSet(0, 0), 0);
        due("empty word", x.atomSet(0, 1), 2);
        due("ends with a", x.atomSet(0, 2), 3);
        set(x, 1, EVERY);
        due("every", x.atomSet(1, 0), 1);
        set(x, 2, EMPTY);
        due("empty", x.atomSet(2, 0), 0);
        x.makeWitness(2, 6);
        for (int atom = 0; atom < 64; atom++) {
            due("witness", x.atomSet(2, atom), atom);
        }
        int[][] wrongs = {{-1, 0}, {3, 0}, {0, -1}, {0, 3}, {1, 1}, {2, 64}, {0, MIN}, {0, MAX}, {MAX, 0}};
        for (int[] w : wrongs) {
            dueThrow("wrong", INDEX, () -> x.atomSet(w[0], w[1]));
        }
    }

    private static void atomOfWord() {
        LanguageAtoms x = new LanguageAtoms();
        set(x, 0, ENDS_WITH_A);
        String[] words = {"", "a", "b", "aab", "bba", "cccccccccccc"};
        int[] atoms = {1, 2, 0, 0, 2, 0};
        for (int i = 0; i < words.length; i++) {
            setWord(x, words[i]);
            due(words[i], x.atomOfWord(0), atoms[i]);
        }
        x.makeWitness(1, 3);
        setWord(x, "ab");
        // From 0 by a to 1, by b to 0; from 1 to 2 and 2, which is final; from 2 to 0 and 1.
        due("witness", x.atomOfWord(1), 2);
        for (int register : new int[] {-1, 3, MIN, MAX}) {
            dueThrow("register", INDEX, () -> x.atomOfWord(register));
        }
    }

    private static void atomTargets() {
        LanguageAtoms x = new LanguageAtoms();
        set(x, 0, ENDS_WITH_A);
        // A letter in front changes the empty word alone.
        due("rest a", x.atomTargets(0, 0, 0), 1L);
        due("rest b", x.atomTargets(0, 0, 1), 3L);
        due("rest c", x.atomTargets(0, 0, 2), 3L);
        due("empty word a", x.atomTargets(0, 1, 0), 0L);
        due("empty word b", x.atomTargets(0, 1, 1), 0L);
        due("ends a", x.atomTargets(0, 2, 0), 6L);
        due("ends b", x.atomTargets(0, 2, 1), 4L);
        x.makeWitness(1, 6);
        due("the 64th atom", x.atomTargets(1, 63, 0), 1L << 63);
        // The letter c leads 5 and 0 to 0: sets with 0, with or without 5, lead from those with both.
        due("c", x.atomTargets(1, 33, 2), 1L << 1 | 1L << 33);
        due("c from none", x.atomTargets(1, 1, 2), 0L);
        int[][] wrongs = {{-1, 0, 0}, {3, 0, 0}, {0, -1, 0}, {0, 3, 0}, {0, 0, -1}, {0, 0, 3}, {1, 64, 0},
            {MIN, 0, 0}, {0, MAX, 0}, {0, 0, MIN}};
        for (int[] w : wrongs) {
            dueThrow("wrong", INDEX, () -> x.atomTargets(w[0], w[1], w[2]));
        }
    }

    private static void initialAtoms() {
        LanguageAtoms x = new LanguageAtoms();
        due("empty", x.initialAtoms(0), 0L);
        set(x, 0, ENDS_WITH_A);
        due("ends with a", x.initialAtoms(0), 4L);
        set(x, 0, EVERY);
        due("every", x.initialAtoms(0), 1L);
        x.makeWitness(1, 6);
        due("witness", x.initialAtoms(1), 0xAAAAAAAAAAAAAAAAL);
        for (int register : new int[] {-1, 3, MIN, MAX}) {
            dueThrow("register", INDEX, () -> x.initialAtoms(register));
        }
    }

    private static void finalAtom() {
        LanguageAtoms x = new LanguageAtoms();
        due("empty", x.finalAtom(0), 0);
        set(x, 0, ENDS_WITH_A);
        due("ends with a", x.finalAtom(0), 1);
        for (int states = 2; states <= 6; states++) {
            x.makeWitness(1, states);
            due("witness", x.finalAtom(1), 1 << states - 1);
        }
        for (int register : new int[] {-1, 3, MIN, MAX}) {
            dueThrow("register", INDEX, () -> x.finalAtom(register));
        }
    }

    private static void takeAtomWord() {
        LanguageAtoms x = new LanguageAtoms();
        set(x, 0, ENDS_WITH_A);
        setWord(x, "cccccccccccc");
        due("rest", x.takeAtomWord(0, 0), 1);
        due("rest", word(x), "b");
        due("empty word", x.takeAtomWord(0, 1), 0);
        due("empty word", word(x), "");
        due("ends with a", x.takeAtomWord(0, 2), 1);
        due("ends with a", word(x), "a");
        x.makeWitness(1, 3);
        for (int atom = 0; atom < 8; atom++) {
            x.takeAtomWord(1, atom);
            due("witness", x.atomOfWord(1), atom);
        }
        // Among words of one length the first letter is looked at before the rest.
        set(x, 2, "123 455 545 555 555* 555");
        setWord(x, "");
        int of = 0;
        for (int atom = 0; atom < x.atomCount(2); atom++) {
            of = (x.atomSet(2, atom) & 1) == 1 ? atom : of;
        }
        due("two words of two letters", x.takeAtomWord(2, of), 2);
        due("the first one", word(x), "aa");
        x.makeWitness(1, 6);
        setWord(x, "abc");
        dueThrow("too long", STATE, () -> x.takeAtomWord(1, 63));
        int[][] wrongs = {{-1, 0}, {3, 0}, {0, -1}, {0, 3}, {1, 64}, {MIN, 0}, {0, MIN}, {0, MAX}};
        for (int[] w : wrongs) {
            dueThrow("wrong", INDEX, () -> x.takeAtomWord(w[0], w[1]));
        }
        due("word stays", word(x), "abc");
    }

    /** The greatest size that an atom may have, by the theory of atoms; the witnesses reach it. */
    private static int greatestAtom(int states, int inside) {
        if (inside == 0 || inside == states) {
            return (1 << states) - 1;
        }
        int sum = 1;
        for (int k = 1; k <= inside; k++) {
            for (int l = 1; l <= states - inside; l++) {
                sum += choose(states, k) * choose(states - k, l);
            }
        }
        return sum;
    }

    private static int choose(int n, int k) {
        int result = 1;
        for (int i = 0; i < k; i++) {
            result = result * (n - i) / (i + 1);
        }
        return result;
    }

    private static void atomSize() {
        LanguageAtoms x = new LanguageAtoms();
        due("empty", x.atomSize(0, 0), 1);
        set(x, 0, ENDS_WITH_A);
        due("rest", x.atomSize(0, 0), 2);
        due("empty word", x.atomSize(0, 1), 2);
        due("ends with a", x.atomSize(0, 2), 2);
        for (int states = 2; states <= 6; states++) {
            x.makeWitness(1, states);
            for (int atom = 0; atom < 1 << states; atom++) {
                due("witness " + states + " atom " + atom, x.atomSize(1, atom),
                    greatestAtom(states, Integer.bitCount(atom)));
            }
        }
        int[][] wrongs = {{-1, 0}, {3, 0}, {0, -1}, {0, 3}, {1, 64}, {MIN, 0}, {0, MIN}, {0, MAX}};
        for (int[] w : wrongs) {
            dueThrow("wrong", INDEX, () -> x.atomSize(w[0], w[1]));
        }
    }

    private static void resultSize() {
        LanguageAtoms x = new LanguageAtoms();
        set(x, 0, STARTS_WITH_A);
        set(x, 1, ENDS_WITH_A);
        int[] sizes = {4, 4, 4, 5, 4};
        for (int operation = 0; operation < 5; operation++) {
            due("operation " + operation, x.resultSize(operation, 0, 1), sizes[operation]);
        }
        int[] selfSizes = {3, 3, 1, 1, 4};
        for (int operation = 0; operation < 5; operation++) {
            due("with itself " + operation, x.resultSize(operation, 0, 0), selfSizes[operation]);
        }
        due("everything less", x.resultSize(2, 1, 2), 2);
        due("nothing less", x.resultSize(2, 2, 1), 1);
        x.makeWitness(0, 6);
        x.makeWitness(1, 6);
        due("greatest concatenation", x.resultSize(4, 0, 1), 352);
        for (int operation : new int[] {-1, 5, MIN, MAX}) {
            dueThrow("operation", ARGUMENT, () -> x.resultSize(operation, 0, 0));
            dueThrow("operation first", ARGUMENT, () -> x.resultSize(operation, 3, -1));
        }
        int[][] wrongs = {{-1, 0}, {3, 0}, {0, -1}, {0, 3}, {MIN, 0}, {0, MAX}};
        for (int[] w : wrongs) {
            dueThrow("register", INDEX, () -> x.resultSize(0, w[0], w[1]));
            dueThrow("register", INDEX, () -> x.resultSize(4, w[0], w[1]));
        }
    }

    private static void starSize() {
        LanguageAtoms x = new LanguageAtoms();
        String[] languages = {EMPTY, EVERY, ONLY_EMPTY_WORD, ONLY_A, ENDS_WITH_A, STARTS_WITH_A, EVEN_LENGTH};
        int[] sizes = {2, 1, 2, 2, 2, 3, 2};
        for (int i = 0; i < languages.length; i++) {
            set(x, 2, languages[i]);
            due(languages[i], x.starSize(2), sizes[i]);
            due("stays", show(x, 2), languages[i]);
        }
        int[] witnessSizes = {1, 2, 6, 12, 24, 48};
        for (int states = 1; states <= 6; states++) {
            x.makeWitness(1, states);
            due("witness " + states, x.starSize(1), witnessSizes[states - 1]);
        }
        for (int register : new int[] {-1, 3, MIN, MAX}) {
            dueThrow("register", INDEX, () -> x.starSize(register));
        }
    }

    private static void combine() {
        LanguageAtoms x = new LanguageAtoms();
        set(x, 0, STARTS_WITH_A);
        set(x, 1, ENDS_WITH_A);
        due("union", x.combine(0, 0, 1, 2), 4);
        due("union", show(x, 2), "122 111* 322 322*");
        due("intersection", x.combine(1, 0, 1, 2), 4);
        due("intersection", show(x, 2), "122 133* 222 133");
        due("difference", x.combine(2, 0, 1, 2), 4);
        due("difference", show(x, 2), "122 133 222 133*");
        due("the other difference", x.combine(2, 1, 0, 2), 4);
        due("the other difference", show(x, 2), "122 111 322 322*");
        due("symmetric difference", x.combine(3, 0, 1, 2), 5);
        due("symmetric difference", show(x, 2), "122 133 422 133* 422*");
        due("concatenation", x.combine(4, 0, 1, 2), 4);
        due("concatenation", show(x, 2), "122 311 222 311*");
        due("the other concatenation", x.combine(4, 1, 0, 2), 3);
        due("the other concatenation", show(x, 2), "100 200 222*");
        due("sources stay", show(x, 0) + "|" + show(x, 1), STARTS_WITH_A + "|" + ENDS_WITH_A);
        due("into the first", x.combine(1, 0, 1, 0), 4);
        due("into the first", show(x, 0), "122 133* 222 133");
        due("into the second", x.combine(2, 0, 1, 1), 1);
        due("into the second", show(x, 1), EMPTY);
        due("all the same", x.combine(4, 0, 0, 0), 6);
        due("all the same", show(x, 0), "122 344 222 355* 144 355");
        x.makeWitness(0, 6);
        x.makeWitness(1, 5);
        String before = all(x);
        for (int operation = 0; operation < 5; operation++) {
            int number = operation;
            dueThrow("too great " + operation, STATE, () -> x.combine(number, 0, 1, 2));
            dueThrow("register before size", INDEX, () -> x.combine(number, 0, 1, 3));
        }
        for (int operation : new int[] {-1, 5, MIN, MAX}) {
            dueThrow("operation", ARGUMENT, () -> x.combine(operation, 0, 0, 0));
            dueThrow("operation first", ARGUMENT, () -> x.combine(operation, 3, -1, 3));
        }
        int[][] wrongs = {{-1, 0, 0}, {3, 0, 0}, {0, -1, 0}, {0, 3, 0}, {0, 0, -1}, {0, 0, 3}, {MIN, 0, 0},
            {0, MAX, 0}, {0, 0, MAX}};
        for (int[] w : wrongs) {
            dueThrow("register", INDEX, () -> x.combine(0, w[0], w[1], w[2]));
        }
        due("unchanged", all(x), before);
    }

    private static void star() {
        LanguageAtoms x = new LanguageAtoms();
        due("empty", x.star(0, 2), 2);
        due("empty", show(x, 2), ONLY_EMPTY_WORD);
        set(x, 0, ONLY_A);
        due("only a", x.star(0, 1), 2);
        due("only a", show(x, 1), "011* 111");
        due("source stays", show(x, 0), ONLY_A);
        set(x, 0, ENDS_WITH_A);
        due("into itself", x.star(0, 0), 2);
        due("into itself", show(x, 0), "011* 011");
        set(x, 0, STARTS_WITH_A);
        due("starts with a", x.star(0, 0), 3);
        due("starts with a", show(x, 0), "122* 111* 222");
        x.makeWitness(0, 3);
        due("six", x.star(0, 1), 6);
        x.makeWitness(0, 4);
        String before = all(x);
        dueThrow("too great", STATE, () -> x.star(0, 1));
        dueThrow("register before size", INDEX, () -> x.star(0, 3));
        int[][] wrongs = {{-1, 1}, {3, 1}, {1, -1}, {1, 3}, {MIN, 1}, {1, MAX}};
        for (int[] w : wrongs) {
            dueThrow("register", INDEX, () -> x.star(w[0], w[1]));
        }
        due("unchanged", all(x), before);
    }

    private static void reverse() {
        LanguageAtoms x = new LanguageAtoms();
        set(x, 0, ENDS_WITH_A);
        due("ends with a", x.reverse(0, 1), 3);
        due("ends with a", show(x, 1), STARTS_WITH_A);
        due("back", x.reverse(1, 1), 2);
        due("back", show(x, 1), ENDS_WITH_A);
        due("source stays", show(x, 0), ENDS_WITH_A);
        // The word abc alone.
        set(x, 0, "144 424 443 444* 444");
        due("one word", x.reverse(0, 0), 5);
        due("one word", show(x, 0), "112 111 131 411 111*");
        due("empty", x.reverse(2, 2), 1);
        due("empty", show(x, 2), EMPTY);
        x.makeWitness(0, 3);
        String before = all(x);
        dueThrow("too great", STATE, () -> x.reverse(0, 1));
        dueThrow("register before size", INDEX, () -> x.reverse(0, 3));
        int[][] wrongs = {{-1, 1}, {3, 1}, {1, -1}, {1, 3}, {MIN, 1}, {1, MAX}};
        for (int[] w : wrongs) {
            dueThrow("register", INDEX, () -> x.reverse(w[0], w[1]));
        }
        due("unchanged", all(x), before);
    }

    private static void uniteAtoms() {
        LanguageAtoms x = new LanguageAtoms();
        set(x, 0, ENDS_WITH_A);
        due("none", x.uniteAtoms(0, 0L, 1), 1);
        due("none", show(x, 1), EMPTY);
        due("rest", x.uniteAtoms(0, 1L, 1), 2);
        due("rest", show(x, 1), "011 011*");
        due("empty word", x.uniteAtoms(0, 2L, 1), 2);
        due("empty word", show(x, 1), ONLY_EMPTY_WORD);
        due("rest and empty word", x.uniteAtoms(0, 3L, 1), 2);
        due("rest and empty word", show(x, 1), "100* 100");
        due("initial atoms", x.uniteAtoms(0, 4L, 1), 2);
        due("initial atoms", show(x, 1), ENDS_WITH_A);
        due("all", x.uniteAtoms(0, 7L, 2), 1);
        due("all", show(x, 2), EVERY);
        due("into itself", x.uniteAtoms(0, 2L, 0), 2);
        due("into itself", show(x, 0), ONLY_EMPTY_WORD);
        x.makeWitness(0, 6);
        due("64 atoms", x.uniteAtoms(0, -1L, 1), 1);
        due("64 atoms", show(x, 1), EVERY);
        due("the language", x.uniteAtoms(0, 0xAAAAAAAAAAAAAAAAL, 1), 6);
        due("the language", show(x, 1), WITNESSES[5]);
        String before = all(x);
        dueThrow("too great", STATE, () -> x.uniteAtoms(0, 1L, 1));
        dueThrow("too great, into itself", STATE, () -> x.uniteAtoms(0, Long.MIN_VALUE, 0));
        dueThrow("no second atom", ARGUMENT, () -> x.uniteAtoms(2, 2L, 0));
        dueThrow("no last atom", ARGUMENT, () -> x.uniteAtoms(2, Long.MIN_VALUE, 0));
        dueThrow("register first", INDEX, () -> x.uniteAtoms(2, 2L, 3));
        dueThrow("register before size", INDEX, () -> x.uniteAtoms(0, 1L, -1));
        int[][] wrongs = {{-1, 1}, {3, 1}, {1, -1}, {1, 3}, {MIN, 1}, {1, MAX}};
        for (int[] w : wrongs) {
            dueThrow("register", INDEX, () -> x.uniteAtoms(w[0], 0L, w[1]));
        }
        due("unchanged", all(x), before);
    }

    private static void isUnionOfAtoms() {
        LanguageAtoms x = new LanguageAtoms();
        set(x, 0, ENDS_WITH_A);
        String[] languages = {EMPTY, EVERY, ONLY_EMPTY_WORD, ENDS_WITH_A, ONLY_A, STARTS_WITH_A, EVEN_LENGTH,
            "011 011*", "000* 101"};
        boolean[] unions = {true, true, true, true, false, false, false, true, true};
        for (int i = 0; i < languages.length; i++) {
            set(x, 1, languages[i]);
            due(languages[i], x.isUnionOfAtoms(0, 1), unions[i]);
            due("of itself", x.isUnionOfAtoms(1, 1), true);
        }
        // A state that no word reaches gives no quotient.
        set(x, 0, "000 111* 012");
        set(x, 1, "000* 100");
        due("unreachable states", x.isUnionOfAtoms(0, 1), true);
        set(x, 1, ENDS_WITH_A);
        due("one atom alone", x.isUnionOfAtoms(0, 1), false);
        due("the other way round", x.isUnionOfAtoms(1, 0), true);
        int[][] wrongs = {{-1, 0}, {3, 0}, {0, -1}, {0, 3}, {MIN, 0}, {0, MAX}};
        for (int[] w : wrongs) {
            dueThrow("register", INDEX, () -> x.isUnionOfAtoms(w[0], w[1]));
        }
    }

    private static void takeDifference() {
        LanguageAtoms x = new LanguageAtoms();
        set(x, 0, STARTS_WITH_A);
        set(x, 1, ENDS_WITH_A);
        due("ab", x.takeDifference(0, 1), 2);
        due("ab", word(x), "ab");
        due("ab", x.takeDifference(1, 0), 2);
        set(x, 2, EVERY);
        due("empty word", x.takeDifference(0, 2), 0);
        due("empty word", word(x), "");
        // Of the lengths 4 and more, those by steps of 6 and by steps of 5 first differ at 9.
        set(x, 0, "111 222 333 444 555* 000");
        set(x, 1, "111 222 333 444 000*");
        due("nine letters", x.takeDifference(0, 1), 9);
        due("nine letters", word(x), "aaaaaaaaa");
        // Up to four letters c, and up to three.
        set(x, 0, "551* 552* 553* 554* 555* 555");
        set(x, 1, "441* 442* 443* 444* 444");
        due("the last letter", x.takeDifference(0, 1), 4);
        due("the last letter", word(x), "cccc");
        set(x, 0, "111* 000");
        set(x, 1, "111* 222 333* 000");
        setWord(x, "abc");
        dueThrow("equal", "NoSuchElementException", () -> x.takeDifference(0, 1));
        dueThrow("the same", "NoSuchElementException", () -> x.takeDifference(2, 2));
        int[][] wrongs = {{-1, 0}, {3, 0}, {0, -1}, {0, 3}, {MIN, 0}, {0, MAX}};
        for (int[] w : wrongs) {
            dueThrow("register", INDEX, () -> x.takeDifference(w[0], w[1]));
        }
        due("word stays", word(x), "abc");
    }

    private static void share() {
        LanguageAtoms x = new LanguageAtoms();
        set(x, 0, ENDS_WITH_A);
        set(x, 1, ONLY_A);
        set(x, 2, EVERY);
        due("length 0", x.share(0, 0), 0.0);
        due("a third", x.share(0, 1), 1.0 / 3.0);
        due("length 20", x.share(0, 20), 1162261467.0 / 3486784401.0);
        due("only a", x.share(1, 1), 1.0 / 3.0);
        due("only a", x.share(1, 2), 0.0);
        due("every", x.share(2, 20), 1.0);
        // The words of b and c alone.
        set(x, 1, "100* 111");
        due("no a", x.share(1, 20), 1048576.0 / 3486784401.0);
        for (int register : new int[] {-1, 3, MIN, MAX}) {
            dueThrow("register", INDEX, () -> x.share(register, 0));
            dueThrow("register first", INDEX, () -> x.share(register, 21));
        }
        for (int length : new int[] {-1, 21, MIN, MAX}) {
            dueThrow("length", ARGUMENT, () -> x.share(0, length));
        }
    }

    private static void keepShares() {
        LanguageAtoms x = new LanguageAtoms();
        set(x, 0, "100* 111");
        x.keepShares(0, 0, 20, false);
        x.keepShares(1, 0, 20, true);
        for (int n = 1; n <= 20; n++) {
            double share = Math.pow(2, n) / Math.pow(3, n);
            due("double " + n, x.remainder(0, n, 0), share);
            due("float " + n, x.remainder(1, n, 0), (double) (float) share);
        }
        // A row stays as it was when the automaton changes.
        x.reset(0, 1);
        due("stays", x.remainder(0, 1, 0), 2.0 / 3.0);
        x.makeWitness(0, 1);
        x.keepShares(0, 0, 3, true);
        dueThrow("shorter row", INDEX, () -> x.remainder(0, 4, 0));
        due("the new row", x.remainder(0, 3, 0), 0.0);
        due("the other row", x.remainder(1, 1, 0), (double) (float) (2.0 / 3.0));
        x.keepShares(1, 0, 0, false);
        due("one element", x.remainder(1, 0, 0), 0.0);
        int[][] wrongs = {{-1, 0}, {2, 0}, {0, -1}, {0, 3}, {MIN, 0}, {MAX, 0}, {0, MAX}};
        for (int[] w : wrongs) {
            dueThrow("wrong", INDEX, () -> run(() -> x.keepShares(w[0], w[1], 0, true)));
            dueThrow("wrong first", INDEX, () -> run(() -> x.keepShares(w[0], w[1], 21, true)));
        }
        for (int length : new int[] {-1, 21, MIN, MAX}) {
            dueThrow("length", ARGUMENT, () -> run(() -> x.keepShares(0, 0, length, true)));
        }
        dueThrow("unchanged", INDEX, () -> x.remainder(0, 4, 0));
        due("unchanged", x.remainder(0, 3, 0), 0.0);
    }

    private static void remaindersOf(int seed, int dividend) {
        LanguageAtoms x = new LanguageAtoms();
        x.reset(0, 1 + seed % 6);
        x.randomize(0, seed);
        x.keepShares(0, 0, 20, false);
        x.keepShares(1, 0, 20, true);
        double a = x.share(0, dividend);
        for (int i = 0; i <= 20; i++) {
            int divisor = i;
            double b = x.share(0, divisor);
            if (b == 0.0) {
                dueThrow("zero", "ArithmeticException", () -> x.remainder(0, dividend, divisor));
                dueThrow("zero", "ArithmeticException", () -> x.remainder(1, dividend, divisor));
            } else {
                due("double", x.remainder(0, dividend, divisor), a % b);
                due("float", x.remainder(1, dividend, divisor), (double) ((float) a % (float) b));
            }
        }
    }

    private static void remainder() {
        for (int seed = 1; seed < 40; seed++) {
            for (int dividend = 0; dividend <= 20; dividend++) {
                remaindersOf(seed, dividend);
            }
        }
        LanguageAtoms x = new LanguageAtoms();
        dueThrow("missing", STATE, () -> x.remainder(0, -1, 50));
        x.makeWitness(0, 1);
        x.keepShares(0, 0, 5, true);
        for (int row : new int[] {-1, 2, MIN, MAX}) {
            dueThrow("row", ARGUMENT, () -> x.remainder(row, 0, 0));
            dueThrow("row first", ARGUMENT, () -> x.remainder(row, -1, 0));
        }
        int[][] wrongs = {{-1, 0}, {6, 0}, {0, -1}, {0, 6}, {MIN, 0}, {0, MAX}};
        for (int[] w : wrongs) {
            dueThrow("index", INDEX, () -> x.remainder(0, w[0], w[1]));
        }
        x.reset(0, 1);
        x.keepShares(0, 0, 5, false);
        dueThrow("index before zero", INDEX, () -> x.remainder(0, 6, 0));
        dueThrow("zero", "ArithmeticException", () -> x.remainder(0, 0, 5));
    }

    private static void save() {
        LanguageAtoms x = sample();
        String first = all(x);
        x.save();
        x.setTarget(0, 0, 0, 2);
        x.setFinal(1, 2, true);
        x.reset(2, 6);
        setWord(x, "ccc");
        String second = all(x);
        due("saving changes nothing", second.equals(first), false);
        x.restore();
        due("restored", all(x), first);
        x.makeWitness(0, 6);
        x.clearWord();
        String third = all(x);
        x.save();
        due("saving changes nothing", all(x), third);
        x.makeWitness(0, 2);
        x.restore();
        due("the later one", all(x), third);
    }

    private static void restore() {
        LanguageAtoms x = sample();
        String before = all(x);
        dueThrow("nothing saved", STATE, () -> run(x::restore));
        due("unchanged", all(x), before);
        x.save();
        for (int i = 0; i < 3; i++) {
            x.reset(i, 5);
            x.randomize(i, i);
            x.appendLetter(i);
            x.restore();
            due("stays saved", all(x), before);
        }
        x.makeWitness(0, 1);
        x.keepShares(0, 0, 2, false);
        x.restore();
        due("rows stay", x.remainder(0, 2, 0), 0.0);
        dueThrow("rows stay", INDEX, () -> x.remainder(0, 3, 0));
        dueThrow("rows stay missing", STATE, () -> x.remainder(1, 0, 0));
    }

    public static void main(String[] args) {
        Runnable[] promises = {PromiseTests::newObject, PromiseTests::reset, PromiseTests::setTarget,
            PromiseTests::setFinal, PromiseTests::stateCount, PromiseTests::target, PromiseTests::isFinal,
            PromiseTests::randomize, PromiseTests::makeWitness, PromiseTests::appendLetter, PromiseTests::clearWord,
            PromiseTests::wordLetter, PromiseTests::accepts, PromiseTests::size, PromiseTests::minimize,
            PromiseTests::quotientOfWord, PromiseTests::atomCount, PromiseTests::atomSet, PromiseTests::atomOfWord,
            PromiseTests::atomTargets, PromiseTests::initialAtoms, PromiseTests::finalAtom,
            PromiseTests::takeAtomWord, PromiseTests::atomSize, PromiseTests::resultSize, PromiseTests::starSize,
            PromiseTests::combine, PromiseTests::star, PromiseTests::reverse, PromiseTests::uniteAtoms,
            PromiseTests::isUnionOfAtoms, PromiseTests::takeDifference, PromiseTests::share,
            PromiseTests::keepShares, PromiseTests::remainder, PromiseTests::save, PromiseTests::restore};
        for (Runnable test : promises) {
            promise++;
            test.run();
        }
        System.out.println(promise + " promises tested, " + wrong + " answers are not as due");
        if (wrong != 0) {
            System.exit(1);
        }
    }
}
