import java.io.IOException;
import java.nio.charset.StandardCharsets;
import java.nio.file.Files;
import java.nio.file.Path;
import java.util.ArrayList;
import java.util.HashSet;
import java.util.List;
import java.util.Map;
import java.util.Set;
import java.util.TreeMap;
import java.util.function.IntFunction;
import java.util.function.Predicate;
import java.util.function.Supplier;

/**
 * What the boundary tests share: the sentences of the document, ways to look at a whole object, and languages told
 * in plain words. An automaton is written as text, a group for each state: its three targets, and a star if it is
 * final. No object is used for more than 512 calls, because the document leaves free what comes after them.
 */
final class Bench {
    static final int MIN = Integer.MIN_VALUE;
    static final int MAX = Integer.MAX_VALUE;
    static final String INDEX = "IndexOutOfBoundsException";
    static final String ARGUMENT = "IllegalArgumentException";
    static final String STATE = "IllegalStateException";
    static final String NO_ELEMENT = "NoSuchElementException";
    static final String ARITHMETIC = "ArithmeticException";

    static final String EMPTY = "000";
    static final String EVERY = "000*";
    static final String ONLY_EMPTY_WORD = "111* 111";
    static final String ONLY_A = "122 222* 222";
    static final String ENDS_WITH_A = "100 100*";
    static final String STARTS_WITH_A = "122 111* 222";
    static final String WITHOUT_A = "100* 111";
    static final String EVEN_LENGTH = "111* 000";
    static final String ODD_LENGTH = "111 000*";
    static final String LENGTH_1 = "111 222* 222";
    static final String LENGTH_3 = "111 222 333 444* 444";
    static final String LENGTH_4 = "111 222 333 444 555* 555";
    static final String ALL_BUT_LENGTH_4 = "111* 222* 333* 444* 555 555*";
    static final String[] WITNESSES = {"000*", "110 000*", "110 201 020*", "110 201 322 030*", "110 201 322 433 040*",
        "110 201 322 433 544 050*"};
    /** A language with 63 atoms: no set of quotients is missing but one. */
    static final String ATOMS_63 = "353 202 001 421 154 503*";
    /** A language with 7 atoms. */
    static final String ATOMS_7 = "010 202 000*";
    /** A language with 8 atoms, the first of which has 7 quotients. */
    static final String ATOM_OF_SIZE_7 = "111* 112* 010";

    private static final Map<Integer, String> sections = new TreeMap<>();
    private static final Map<Integer, List<String>> quotes = new TreeMap<>();
    private static final Map<String, int[][]> tables = new TreeMap<>();
    private static int promise = 0;
    private static int tests = 0;
    private static int wrong = 0;
    private static String sentence = "";

    private Bench() {
    }

    interface Call {
        Object on(LanguageAtoms x);
    }

    interface Act {
        void on(LanguageAtoms x);
    }

    static Call act(Act act) {
        return x -> {
            act.on(x);
            return "nothing";
        };
    }

    // The document and its sentences.

    static void readDocument(String path) throws IOException {
        String text = Files.readString(Path.of(path), StandardCharsets.UTF_8);
        String[] parts = text.split("(?m)^## Promise (?=\\d+:)|^## (?=Not promised)");
        sections.put(0, parts[0]);
        for (int i = 1; i < parts.length; i++) {
            if (Character.isDigit(parts[i].charAt(0))) {
                sections.put(Integer.parseInt(parts[i].substring(0, parts[i].indexOf(':'))), parts[i]);
            }
        }
    }

    private static String plain(String text) {
        return text.replaceAll("\\s+", " ").trim();
    }

    static void promise(int number) {
        promise = number;
        quotes.putIfAbsent(number, new ArrayList<>());
    }

    /** A test of one sentence, which is written as the document writes it. */
    static void test(String quote, Runnable body) {
        sentence = quote;
        tests++;
        quotes.get(promise).add(quote);
        due("the sentence stands in the document", plain(sections.getOrDefault(promise, "")).contains(quote), true);
        try {
            body.run();
        } catch (RuntimeException e) {
            due("the test", e.toString(), "an end without an exception");
        }
    }

    /** Each paragraph and each item of each promise has a test. */
    static void checkEachSentenceHasATest() {
        due("sections", sections.size(), 38);
        for (Map.Entry<Integer, String> section : sections.entrySet()) {
            promise(section.getKey());
            sentence = "every sentence";
            if (section.getKey() > 0) {
                checkSection(section.getValue());
            }
        }
    }

    private static void checkSection(String text) {
        String[] parts = text.split("\n\n|\n(?=- )");
        for (int i = 1; i < parts.length; i++) {
            String part = plain(parts[i]);
            if (!part.isEmpty() && !part.startsWith("`")) {
                due("a test of '" + part + "'", quotes.get(promise).stream().anyMatch(part::contains), true);
            }
        }
    }

    static void due(String what, Object got, Object want) {
        if (!want.equals(got)) {
            wrong++;
            System.out.println("promise " + promise + ", '" + sentence + "': " + what + " answered " + got + ", due is "
                + want);
        }
    }

    static int end() {
        System.out.println(tests + " sentences tested, " + wrong + " answers are not as due");
        return wrong == 0 ? 0 : 1;
    }

    // Objects and what is in them.

    static LanguageAtoms with(String... automata) {
        LanguageAtoms x = new LanguageAtoms();
        for (int register = 0; register < automata.length; register++) {
            set(x, register, automata[register]);
        }
        return x;
    }

    static LanguageAtoms set(LanguageAtoms x, int register, String automaton) {
        String[] states = automaton.split(" ");
        x.reset(register, states.length);
        for (int state = 0; state < states.length; state++) {
            for (int letter = 0; letter < 3; letter++) {
                x.setTarget(register, state, letter, states[state].charAt(letter) - '0');
            }
            if (states[state].endsWith("*")) {
                x.setFinal(register, state, true);
            }
        }
        return x;
    }

    static LanguageAtoms setWord(LanguageAtoms x, String letters) {
        x.clearWord();
        for (char c : letters.toCharArray()) {
            x.appendLetter(c - 'a');
        }
        return x;
    }

    static String show(LanguageAtoms x, int register) {
        List<String> states = new ArrayList<>();
        for (int q = 0; q < x.stateCount(register); q++) {
            states.add("" + x.target(register, q, 0) + x.target(register, q, 1) + x.target(register, q, 2)
                + (x.isFinal(register, q) ? "*" : ""));
        }
        return String.join(" ", states);
    }

    static String word(LanguageAtoms x) {
        StringBuilder text = new StringBuilder();
        for (int i = 0; i <= 12; i++) {
            try {
                text.append((char) ('a' + x.wordLetter(i)));
            } catch (IndexOutOfBoundsException e) {
                return text.toString();
            }
        }
        return text.toString();
    }

    static String all(LanguageAtoms x) {
        return show(x, 0) + " | " + show(x, 1) + " | " + show(x, 2) + " | " + word(x);
    }

    static String row(LanguageAtoms x, int row) {
        StringBuilder text = new StringBuilder();
        for (int i = 0; i <= 21; i++) {
            int index = i;
            String got = answer(x, y -> y.remainder(row, index, 0));
            text.append(' ').append(got);
            if (got.equals(INDEX) || got.equals(STATE)) {
                break;
            }
        }
        return text.toString();
    }

    /** All that can be seen of an object, what it has saved too: the object is not to be used behind this. */
    static String whole(LanguageAtoms x) {
        String now = all(x) + " | " + row(x, 0) + " | " + row(x, 1);
        return now + " | saved: " + answer(x, act(LanguageAtoms::restore)) + " " + all(x);
    }

    /** The registers, the word, one of the rows and what is saved all differ from those of a new object. */
    static LanguageAtoms sample() {
        LanguageAtoms x = with(WITHOUT_A, ONLY_A, "000");
        x.keepShares(0, 0, 3, false);
        setWord(x, "cc");
        x.save();
        set(x, 0, WITNESSES[2]);
        set(x, 1, "012* 111 210");
        set(x, 2, ENDS_WITH_A);
        setWord(x, "abc");
        return x;
    }

    // Calls that are taken and calls that are refused.

    static String answer(LanguageAtoms x, Call call) {
        try {
            return "" + call.on(x);
        } catch (RuntimeException e) {
            return e.getClass().getSimpleName();
        }
    }

    static void taken(String what, Supplier<LanguageAtoms> maker, Call call) {
        due(what + " is taken", answer(maker.get(), call).endsWith("Exception"), false);
    }

    static void taken(String what, Call call) {
        taken(what, Bench::sample, call);
    }

    /** The call throws, and the object is what it would be without the call. */
    static void refused(String what, String exception, Supplier<LanguageAtoms> maker, Call call) {
        LanguageAtoms x = maker.get();
        due(what, answer(x, call), exception);
        due("the state behind " + what, whole(x), whole(maker.get()));
    }

    static void refused(String what, String exception, Call call) {
        refused(what, exception, Bench::sample, call);
    }

    /** All numbers from the least to the greatest are taken, and those outside are refused. */
    static void range(String what, int least, int greatest, String exception, IntFunction<Call> calls) {
        range(what, least, greatest, exception, Bench::sample, calls);
    }

    static void range(String what, int least, int greatest, String exception, Supplier<LanguageAtoms> maker,
            IntFunction<Call> calls) {
        for (int number = least; number <= greatest; number++) {
            taken(what + " " + number, maker, calls.apply(number));
        }
        for (int number : new int[] {least - 1, greatest + 1, MIN, MAX}) {
            refused(what + " " + number, exception, maker, calls.apply(number));
        }
    }

    static void registers(IntFunction<Call> calls) {
        range("register", 0, 2, INDEX, calls);
    }

    // Languages by their words alone.

    static List<String> words(int longest) {
        List<String> result = new ArrayList<>(List.of(""));
        for (int i = 0; i < result.size(); i++) {
            if (result.get(i).length() < longest) {
                for (String letter : new String[] {"a", "b", "c"}) {
                    result.add(result.get(i) + letter);
                }
            }
        }
        return result;
    }

    /** For each state its three targets, and 1 if it is final. */
    private static int[][] table(String automaton) {
        return tables.computeIfAbsent(automaton, text -> {
            String[] states = text.split(" ");
            int[][] table = new int[states.length][4];
            for (int state = 0; state < states.length; state++) {
                for (int letter = 0; letter < 3; letter++) {
                    table[state][letter] = states[state].charAt(letter) - '0';
                }
                table[state][3] = states[state].endsWith("*") ? 1 : 0;
            }
            return table;
        });
    }

    static boolean contains(String automaton, int state, String word) {
        int[][] table = table(automaton);
        int at = state;
        for (int i = 0; i < word.length(); i++) {
            at = table[at][word.charAt(i) - 'a'];
        }
        return table[at][3] == 1;
    }

    /** The set of the states of a minimal automaton whose languages contain a word. */
    static int setOf(String automaton, String word) {
        int set = 0;
        for (int state = 0; state < table(automaton).length; state++) {
            set |= contains(automaton, state, word) ? 1 << state : 0;
        }
        return set;
    }

    /** The number of quotients of a language of at most 7, by looking at words of up to 11 letters. */
    static int countQuotients(Predicate<String> language) {
        List<String> ends = words(5);
        Set<String> different = new HashSet<>();
        for (String start : words(6)) {
            StringBuilder answers = new StringBuilder();
            for (String end : ends) {
                answers.append(language.test(start + end) ? '1' : '0');
            }
            different.add(answers.toString());
        }
        return different.size();
    }

    /** For each set of a minimal automaton its first word, found by going through all words in their order. */
    static Map<Integer, String> firstWords(String automaton, int longest) {
        int[][] table = table(automaton);
        int states = table.length;
        int[] level = new int[1];
        for (int state = 0; state < states; state++) {
            level[0] |= state << 3 * state;
        }
        Map<Integer, String> first = new TreeMap<>();
        for (int length = 0; length <= longest; length++) {
            int[] longer = new int[level.length * 3];
            for (int i = 0; i < level.length; i++) {
                int set = 0;
                for (int state = 0; state < states; state++) {
                    int at = level[i] >> 3 * state & 7;
                    set |= table[at][3] << state;
                    for (int letter = 0; letter < 3; letter++) {
                        longer[3 * i + letter] |= table[at][letter] << 3 * state;
                    }
                }
                if (!first.containsKey(set)) {
                    first.put(set, wordOf(i, length));
                }
            }
            level = longer;
        }
        return first;
    }

    private static String wordOf(int index, int length) {
        StringBuilder text = new StringBuilder();
        int rest = index;
        for (int i = 0; i < length; i++) {
            text.append((char) ('a' + rest % 3));
            rest /= 3;
        }
        return text.reverse().toString();
    }
}
