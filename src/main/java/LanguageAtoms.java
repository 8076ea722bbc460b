import java.util.NoSuchElementException;

/** A workbench for the quotients and the atoms of regular languages. */
public final class LanguageAtoms {
    private static final int REGISTERS = 3;
    private static final int ROWS = 2;
    private static final int LETTERS = 3;
    private static final int MAX_STATES = 6;
    private static final int SETS = 64;
    private static final int MAX_WORD = 12;
    private static final int MAX_LENGTH = 20;

    private static final int OPERATIONS = 5;
    private static final int UNION = 0;
    private static final int INTERSECTION = 1;
    private static final int DIFFERENCE = 2;
    private static final int SYMMETRIC_DIFFERENCE = 3;
    private static final int CONCATENATION = 4;

    /** A state of a concatenation, the greatest machine, is a state with a set of states. */
    private static final int MAX_CODES = MAX_STATES * SETS;
    /** An atom has a quotient for each pair of disjoint sets of states at most, and the empty one: 3^6 + 1. */
    private static final int MAX_KEYS = 730;
    private static final int SLOTS = 1024;
    private static final int MIN_SLOTS = 16;
    /** The quotient of two shares is below 3^20, so it has fewer binary digits than this. */
    private static final int MAX_DIGITS = 64;

    private final Automaton[] registers = new Automaton[REGISTERS];
    private final Automaton[] savedRegisters = new Automaton[REGISTERS];
    private final Word word = new Word();
    private final Word savedWord = new Word();
    private boolean saved = false;
    private final Row[] rows = new Row[ROWS];

    // What follows is scratch paper: it holds nothing from one call to the next.
    private final Minimizer minimizer;
    private final Product product = new Product();
    private final Concatenation concatenation = new Concatenation();
    private final StarMachine starMachine = new StarMachine();
    private final Atoms atoms;
    private final Automaton draft = new Automaton();
    private final Row scratchRow = new Row();

    public LanguageAtoms() {
        KeyTable keys = new KeyTable();
        minimizer = new Minimizer(keys);
        atoms = new Atoms(keys);
        for (int i = 0; i < REGISTERS; i++) {
            registers[i] = new Automaton();
            savedRegisters[i] = new Automaton();
        }
        for (int i = 0; i < ROWS; i++) {
            rows[i] = new Row();
        }
    }

    public void reset(int register, int states) throws IndexOutOfBoundsException, IllegalArgumentException {
        checkRegister(register);
        checkStates(states);
        registers[register].clear(states);
    }

    public void setTarget(int register, int state, int letter, int target) throws IndexOutOfBoundsException {
        checkState(register, state);
        checkLetter(letter);
        checkState(register, target);
        registers[register].lead(state, letter, target);
    }

    public boolean setFinal(int register, int state, boolean accepts) throws IndexOutOfBoundsException {
        checkState(register, state);
        boolean before = registers[register].isAccepting(state);
        registers[register].mark(state, accepts);
        return before;
    }

    public int stateCount(int register) throws IndexOutOfBoundsException {
        checkRegister(register);
        return registers[register].states;
    }

    public int target(int register, int state, int letter) throws IndexOutOfBoundsException {
        checkState(register, state);
        checkLetter(letter);
        return registers[register].follow(state, letter);
    }

    public boolean isFinal(int register, int state) throws IndexOutOfBoundsException {
        checkState(register, state);
        return registers[register].isAccepting(state);
    }

    public void randomize(int register, int seed) throws IndexOutOfBoundsException {
        checkRegister(register);
        registers[register].drawAll(seed);
    }

    public void makeWitness(int register, int states) throws IndexOutOfBoundsException, IllegalArgumentException {
        checkRegister(register);
        checkStates(states);
        registers[register].becomeWitness(states);
    }

    public int appendLetter(int letter) throws IndexOutOfBoundsException, IllegalStateException {
        checkLetter(letter);
        checkWordLength(word.length + 1);
        word.add(letter);
        return word.length;
    }

    public int clearWord() {
        int before = word.length;
        word.length = 0;
        return before;
    }

    public int wordLetter(int position) throws IndexOutOfBoundsException {
        checkIndex(position, word.length);
        return word.letters[position];
    }

    public boolean accepts(int register) throws IndexOutOfBoundsException {
        checkRegister(register);
        Automaton automaton = registers[register];
        return automaton.isAccepting(automaton.stateAfter(word));
    }

    public int size(int register) throws IndexOutOfBoundsException {
        checkRegister(register);
        return minimizer.run(registers[register]);
    }

    public int minimize(int register) throws IndexOutOfBoundsException {
        checkRegister(register);
        minimizer.run(registers[register]);
        minimizer.storeIn(registers[register]);
        return registers[register].states;
    }

    public int quotientOfWord(int register) throws IndexOutOfBoundsException {
        checkRegister(register);
        minimizer.run(registers[register]);
        minimizer.storeIn(draft);
        return draft.stateAfter(word);
    }

    public int atomCount(int register) throws IndexOutOfBoundsException {
        findAtoms(register);
        return atoms.count;
    }

    public int atomSet(int register, int atom) throws IndexOutOfBoundsException {
        findAtoms(register);
        checkIndex(atom, atoms.count);
        return atoms.setOf(atom);
    }

    public int atomOfWord(int register) throws IndexOutOfBoundsException {
        findAtoms(register);
        return atoms.numberOf(atoms.setOfWord(word));
    }

    public long atomTargets(int register, int atom, int letter) throws IndexOutOfBoundsException {
        checkLetter(letter);
        findAtoms(register);
        checkIndex(atom, atoms.count);
        return atoms.targetsOf(atoms.setOf(atom), letter);
    }

    public long initialAtoms(int register) throws IndexOutOfBoundsException {
        findAtoms(register);
        return atoms.initialOnes();
    }

    public int finalAtom(int register) throws IndexOutOfBoundsException {
        findAtoms(register);
        return atoms.numberOf(atoms.startCode());
    }

    public int takeAtomWord(int register, int atom) throws IndexOutOfBoundsException, IllegalStateException {
        findAtoms(register);
        checkIndex(atom, atoms.count);
        int set = atoms.setOf(atom);
        checkWordLength(atoms.firstWordLength(set));
        atoms.writeFirstWord(set, word);
        return word.length;
    }

    public int atomSize(int register, int atom) throws IndexOutOfBoundsException {
        findAtoms(register);
        checkIndex(atom, atoms.count);
        return atoms.countQuotients(atoms.setOf(atom));
    }

    public int resultSize(int operation, int first, int second)
            throws IllegalArgumentException, IndexOutOfBoundsException {
        checkOperation(operation);
        checkRegister(first);
        checkRegister(second);
        return operate(operation, first, second);
    }

    public int starSize(int register) throws IndexOutOfBoundsException {
        checkRegister(register);
        starMachine.prepare(registers[register]);
        return minimizer.run(starMachine);
    }

    public int combine(int operation, int first, int second, int target)
            throws IllegalArgumentException, IndexOutOfBoundsException, IllegalStateException {
        checkOperation(operation);
        checkRegister(first);
        checkRegister(second);
        checkRegister(target);
        checkResult(operate(operation, first, second));
        minimizer.storeIn(registers[target]);
        return registers[target].states;
    }

    public int star(int source, int target) throws IndexOutOfBoundsException, IllegalStateException {
        checkRegister(source);
        checkRegister(target);
        starMachine.prepare(registers[source]);
        checkResult(minimizer.run(starMachine));
        minimizer.storeIn(registers[target]);
        return registers[target].states;
    }

    public int reverse(int source, int target) throws IndexOutOfBoundsException, IllegalStateException {
        checkRegister(target);
        findAtoms(source);
        checkResult(atoms.count);
        minimizer.run(atoms);
        minimizer.storeIn(registers[target]);
        return registers[target].states;
    }

    public int uniteAtoms(int source, long atoms, int target)
            throws IndexOutOfBoundsException, IllegalArgumentException, IllegalStateException {
        checkRegister(target);
        findAtoms(source);
        checkAtoms(atoms);
        checkResult(this.atoms.writeUnion(atoms, draft));
        registers[target].copyFrom(draft);
        return draft.states;
    }

    public boolean isUnionOfAtoms(int register, int other) throws IndexOutOfBoundsException {
        checkRegister(other);
        findAtoms(register);
        minimizer.run(registers[other]);
        minimizer.storeIn(draft);
        return atoms.determine(draft);
    }

    public int takeDifference(int first, int second)
            throws IndexOutOfBoundsException, NoSuchElementException, IllegalStateException {
        checkRegister(first);
        checkRegister(second);
        product.prepare(SYMMETRIC_DIFFERENCE, registers[first], registers[second]);
        minimizer.explore(product);
        int state = minimizer.firstAccepting();
        if (state < 0) {
            throw new NoSuchElementException("the languages are equal");
        }
        checkWordLength(minimizer.firstWordLength(state));
        minimizer.writeFirstWord(state, word);
        return word.length;
    }

    public double share(int register, int length) throws IndexOutOfBoundsException, IllegalArgumentException {
        checkRegister(register);
        checkLength(length);
        scratchRow.fill(registers[register], length, false);
        return scratchRow.doubles[length];
    }

    public void keepShares(int row, int register, int maxLength, boolean single)
            throws IndexOutOfBoundsException, IllegalArgumentException {
        checkIndex(row, ROWS);
        checkRegister(register);
        checkLength(maxLength);
        rows[row].fill(registers[register], maxLength, single);
    }

    public double remainder(int row, int dividend, int divisor)
            throws IllegalArgumentException, IllegalStateException, IndexOutOfBoundsException, ArithmeticException {
        if (row < 0 || row >= ROWS) {
            throw new IllegalArgumentException("no such row");
        }
        if (rows[row].length == 0) {
            throw new IllegalStateException("the row is missing");
        }
        checkIndex(dividend, rows[row].length);
        checkIndex(divisor, rows[row].length);
        if (rows[row].isZero(divisor)) {
            throw new ArithmeticException("the divisor is 0");
        }
        return rows[row].rest(dividend, divisor);
    }

    public void save() {
        for (int i = 0; i < REGISTERS; i++) {
            savedRegisters[i].copyFrom(registers[i]);
        }
        savedWord.copyFrom(word);
        saved = true;
    }

    public void restore() throws IllegalStateException {
        if (!saved) {
            throw new IllegalStateException("nothing was saved");
        }
        for (int i = 0; i < REGISTERS; i++) {
            registers[i].copyFrom(savedRegisters[i]);
        }
        word.copyFrom(savedWord);
    }

    private static void checkIndex(int index, int length) {
        if (index < 0 || index >= length) {
            throw new IndexOutOfBoundsException("no such number");
        }
    }

    private static void checkRegister(int register) {
        checkIndex(register, REGISTERS);
    }

    private static void checkLetter(int letter) {
        checkIndex(letter, LETTERS);
    }

    private void checkState(int register, int state) {
        checkRegister(register);
        checkIndex(state, registers[register].states);
    }

    private static void checkStates(int states) {
        if (states < 1 || states > MAX_STATES) {
            throw new IllegalArgumentException("the number of states is out of range");
        }
    }

    private static void checkOperation(int operation) {
        if (operation < 0 || operation >= OPERATIONS) {
            throw new IllegalArgumentException("no such operation");
        }
    }

    private static void checkLength(int length) {
        if (length < 0 || length > MAX_LENGTH) {
            throw new IllegalArgumentException("the length is out of range");
        }
    }

    private void checkAtoms(long set) {
        // A shift by 64 would be one by 0, and with 64 atoms each bit stands for one.
        if (atoms.count < SETS && set >>> atoms.count != 0) {
            throw new IllegalArgumentException("the set contains an atom that does not exist");
        }
    }

    private static void checkWordLength(int length) {
        if (length > MAX_WORD) {
            throw new IllegalStateException("the word would have more than 12 letters");
        }
    }

    private static void checkResult(int quotients) {
        if (quotients > MAX_STATES) {
            throw new IllegalStateException("the result has more than 6 quotients");
        }
    }

    private void findAtoms(int register) {
        checkRegister(register);
        minimizer.run(registers[register]);
        minimizer.storeIn(atoms.base);
        atoms.find();
    }

    private int operate(int operation, int first, int second) {
        if (operation == CONCATENATION) {
            concatenation.prepare(registers[first], registers[second]);
            return minimizer.run(concatenation);
        }
        product.prepare(operation, registers[first], registers[second]);
        return minimizer.run(product);
    }

    /** A word of at most 12 letters. */
    private static final class Word {
        private int length = 0;
        private final int[] letters = new int[MAX_WORD];

        void add(int letter) {
            if (length < MAX_WORD) {
                letters[length] = letter;
                length++;
            }
        }

        void copyFrom(Word other) {
            length = other.length;
            System.arraycopy(other.letters, 0, letters, 0, MAX_WORD);
        }
    }

    /** A complete deterministic automaton whose states are codes below a bound; not all need be reachable. */
    private abstract static class Machine {
        abstract int codeBound();

        abstract int startCode();

        abstract int follow(int code, int letter);

        abstract boolean isAccepting(int code);
    }

    /** The automaton of a register: its codes are its states. */
    private static final class Automaton extends Machine {
        private int states = 1;
        private final int[] targets = new int[MAX_STATES * LETTERS];
        /** Bit k stands for state k. */
        private int finals = 0;

        int codeBound() {
            return MAX_STATES;
        }

        int startCode() {
            return 0;
        }

        int follow(int state, int letter) {
            return targets[state * LETTERS + letter];
        }

        boolean isAccepting(int state) {
            return (finals >> state & 1) == 1;
        }

        void clear(int newStates) {
            states = newStates;
            finals = 0;
            for (int i = 0; i < MAX_STATES * LETTERS; i++) {
                targets[i] = 0;
            }
        }

        void lead(int state, int letter, int target) {
            targets[state * LETTERS + letter] = target;
        }

        void mark(int state, boolean accepts) {
            finals = accepts ? finals | 1 << state : finals & ~(1 << state);
        }

        void copyFrom(Automaton other) {
            states = other.states;
            finals = other.finals;
            System.arraycopy(other.targets, 0, targets, 0, MAX_STATES * LETTERS);
        }

        int stateAfter(Word word) {
            int state = 0;
            for (int i = 0; i < word.length; i++) {
                state = follow(state, word.letters[i]);
            }
            return state;
        }

        void drawAll(int seed) {
            int x = seed;
            for (int i = 0; i < states * LETTERS; i++) {
                x = nextValue(x);
                targets[i] = draw(x, states);
            }
            for (int state = 0; state < states; state++) {
                x = nextValue(x);
                mark(state, draw(x, 2) == 1);
            }
        }

        private static int nextValue(int x) {
            return x * 1103515245 + 12345;
        }

        private static int draw(int x, int bound) {
            return bound > 0 ? (x >>> 16) % bound : 0;
        }

        void becomeWitness(int newStates) {
            clear(newStates);
            int last = newStates - 1;
            for (int state = 0; state < newStates; state++) {
                lead(state, 0, state == last ? 0 : state + 1);
                lead(state, 1, state < 2 && newStates > 1 ? 1 - state : state);
                lead(state, 2, state == last ? 0 : state);
            }
            mark(last, true);
        }
    }

    /** A set of states for each letter and each set of states: where they lead, or from where one is led to them. */
    private static final class SetMap {
        private final int[] values = new int[LETTERS * SETS];

        int of(int letter, int set) {
            return values[letter * SETS + set];
        }

        void fillForward(Automaton automaton) {
            for (int letter = 0; letter < LETTERS; letter++) {
                for (int state = 0; state < automaton.states; state++) {
                    values[letter * SETS + (1 << state)] = 1 << automaton.follow(state, letter);
                }
                joinSingles(letter, automaton.states);
            }
        }

        void fillBackward(Automaton automaton) {
            for (int letter = 0; letter < LETTERS; letter++) {
                for (int state = 0; state < automaton.states; state++) {
                    values[letter * SETS + (1 << state)] = 0;
                }
                for (int state = 0; state < automaton.states; state++) {
                    values[letter * SETS + (1 << automaton.follow(state, letter))] |= 1 << state;
                }
                joinSingles(letter, automaton.states);
            }
        }

        private void joinSingles(int letter, int states) {
            values[letter * SETS] = 0;
            for (int set = 1; set < 1 << states; set++) {
                int rest = set & set - 1;
                if (rest != 0) {
                    values[letter * SETS + set] = of(letter, rest) | of(letter, set & -set);
                }
            }
        }
    }

    /** Runs two automata side by side and joins their answers; a code is a pair of states. */
    private static final class Product extends Machine {
        private int operation = UNION;
        private Automaton first = new Automaton();
        private Automaton second = first;

        void prepare(int newOperation, Automaton newFirst, Automaton newSecond) {
            operation = newOperation;
            first = newFirst;
            second = newSecond;
        }

        int codeBound() {
            return MAX_STATES * MAX_STATES;
        }

        int startCode() {
            return 0;
        }

        int follow(int code, int letter) {
            int left = first.follow(code / MAX_STATES, letter);
            int right = second.follow(code % MAX_STATES, letter);
            return left * MAX_STATES + right;
        }

        boolean isAccepting(int code) {
            boolean left = first.isAccepting(code / MAX_STATES);
            boolean right = second.isAccepting(code % MAX_STATES);
            switch (operation) {
                case UNION:
                    return left || right;
                case INTERSECTION:
                    return left && right;
                case DIFFERENCE:
                    return left && !right;
                default:
                    return left != right;
            }
        }
    }

    /** A code is the state of the first automaton with the set of the states that the second one may be in. */
    private static final class Concatenation extends Machine {
        private Automaton first = new Automaton();
        private int secondFinals = 0;
        private final SetMap forward = new SetMap();

        void prepare(Automaton newFirst, Automaton second) {
            first = newFirst;
            secondFinals = second.finals;
            forward.fillForward(second);
        }

        int codeBound() {
            return MAX_CODES;
        }

        int startCode() {
            return enter(0, 0);
        }

        int follow(int code, int letter) {
            return enter(first.follow(code / SETS, letter), forward.of(letter, code % SETS));
        }

        boolean isAccepting(int code) {
            return (code % SETS & secondFinals) != 0;
        }

        /** Where the first word may end, the second one may begin. */
        private int enter(int state, int set) {
            return state * SETS + (first.isAccepting(state) ? set | 1 : set);
        }
    }

    /** A code is the set of the states that the automaton may be in, or the start before any letter. */
    private static final class StarMachine extends Machine {
        private static final int START = SETS;
        private int finals = 0;
        private final SetMap forward = new SetMap();

        void prepare(Automaton automaton) {
            finals = automaton.finals;
            forward.fillForward(automaton);
        }

        int codeBound() {
            return SETS + 1;
        }

        int startCode() {
            return START;
        }

        int follow(int code, int letter) {
            int set = forward.of(letter, code == START ? 1 : code);
            return (set & finals) != 0 ? set | 1 : set;
        }

        boolean isAccepting(int code) {
            return code == START || (code & finals) != 0;
        }
    }

    /** Numbers different keys from 0 in the order of their first coming. */
    private static final class KeyTable {
        private int count = 0;
        private final long[] keys = new long[MAX_KEYS];
        /** The number of the key in a slot and 1, or 0 in a free slot. */
        private final int[] slots = new int[SLOTS];
        private int slotMask = MIN_SLOTS - 1;

        void begin(int expected) {
            int used = MIN_SLOTS;
            while (used < SLOTS && used < 2 * expected) {
                used = 2 * used;
            }
            for (int i = 0; i < used; i++) {
                slots[i] = 0;
            }
            slotMask = used - 1;
            count = 0;
        }

        /** Answers the number of the key, or -1 if it is new and there is no room for it. */
        int place(long key) {
            int slot = (int) (key * 0x9E3779B97F4A7C15L >>> 40) & slotMask;
            for (int tries = 0; tries <= slotMask; tries++) {
                int entry = slots[slot];
                if (entry == 0) {
                    return insert(slot, key);
                }
                if (keys[entry - 1] == key) {
                    return entry - 1;
                }
                slot = slot + 1 & slotMask;
            }
            return -1;
        }

        private int insert(int slot, long key) {
            if (count >= MAX_KEYS) {
                return -1;
            }
            keys[count] = key;
            count++;
            slots[slot] = count;
            return count - 1;
        }
    }

    /**
     * Finds the minimal automaton of a machine. The reachable states are numbered in the order of their first
     * words, and so their kinds, numbered as they come, bear the numbers of the quotients.
     */
    private static final class Minimizer {
        private static final int UNKNOWN = -1;
        private final KeyTable keys;
        private int count = 0;
        private final int[] codes = new int[MAX_CODES];
        private final int[] numbers = new int[MAX_CODES];
        private final int[] nexts = new int[MAX_CODES * LETTERS];
        /** The place in nexts by which a state was found. */
        private final int[] origins = new int[MAX_CODES];
        private final boolean[] accepting = new boolean[MAX_CODES];
        private int kindCount = 0;
        private int[] kinds = new int[MAX_CODES];
        private int[] newKinds = new int[MAX_CODES];

        Minimizer(KeyTable keys) {
            this.keys = keys;
        }

        /** Answers the number of quotients. */
        int run(Machine machine) {
            explore(machine);
            splitByAcceptance();
            boolean grows = true;
            for (int round = 0; round < MAX_CODES && grows && kindCount < count; round++) {
                grows = splitByTargets();
            }
            return kindCount;
        }

        void explore(Machine machine) {
            int bound = machine.codeBound();
            for (int code = 0; code < bound; code++) {
                numbers[code] = UNKNOWN;
            }
            count = 0;
            numberOf(machine.startCode(), 0);
            for (int state = 0; state < count && state < MAX_CODES; state++) {
                accepting[state] = machine.isAccepting(codes[state]);
                for (int letter = 0; letter < LETTERS; letter++) {
                    int place = state * LETTERS + letter;
                    nexts[place] = numberOf(machine.follow(codes[state], letter), place);
                }
            }
        }

        private int numberOf(int code, int origin) {
            if (numbers[code] == UNKNOWN) {
                numbers[code] = count;
                codes[count] = code;
                origins[count] = origin;
                count++;
            }
            return numbers[code];
        }

        private void splitByAcceptance() {
            kindCount = 1;
            for (int state = 0; state < count; state++) {
                boolean other = accepting[state] != accepting[0];
                kinds[state] = other ? 1 : 0;
                kindCount = other ? 2 : kindCount;
            }
        }

        /** Answers whether there are more kinds than before. */
        private boolean splitByTargets() {
            keys.begin(count);
            for (int state = 0; state < count; state++) {
                long key = kinds[state];
                for (int letter = 0; letter < LETTERS; letter++) {
                    key = key * MAX_CODES + kinds[nexts[state * LETTERS + letter]];
                }
                newKinds[state] = keys.place(key);
            }
            int[] oldKinds = kinds;
            kinds = newKinds;
            newKinds = oldKinds;
            boolean grows = keys.count > kindCount;
            kindCount = keys.count;
            return grows;
        }

        /** To be called after run, if it answered at most 6. */
        void storeIn(Automaton automaton) {
            automaton.clear(kindCount);
            int stored = 0;
            for (int state = 0; state < count && stored < MAX_STATES; state++) {
                if (kinds[state] == stored) {
                    for (int letter = 0; letter < LETTERS; letter++) {
                        automaton.lead(stored, letter, kinds[nexts[state * LETTERS + letter]]);
                    }
                    automaton.mark(stored, accepting[state]);
                    stored++;
                }
            }
        }

        /** Answers the accepting state with the first word, or -1 if there is none. */
        int firstAccepting() {
            for (int state = 0; state < count; state++) {
                if (accepting[state]) {
                    return state;
                }
            }
            return -1;
        }

        int firstWordLength(int state) {
            int length = 0;
            int at = state;
            while (at > 0 && length < MAX_CODES) {
                at = origins[at] / LETTERS;
                length++;
            }
            return length;
        }

        /** To be called only if the word has room for it. */
        void writeFirstWord(int state, Word word) {
            word.length = firstWordLength(state);
            int at = state;
            for (int i = word.length - 1; i >= 0; i--) {
                word.letters[i] = origins[at] % LETTERS;
                at = origins[at] / LETTERS;
            }
        }
    }

    /**
     * The atoms of a minimal automaton, each one known by its set. As a machine it is the automaton of the
     * reversal: to read a letter is to put it in front of the word.
     */
    private static final class Atoms extends Machine {
        private static final int UNKNOWN = -1;
        private final Automaton base = new Automaton();
        private final KeyTable keys;
        private final SetMap forward = new SetMap();
        private final SetMap backward = new SetMap();
        private final SetMap otherBackward = new SetMap();
        private int count = 0;
        /** The sets of the atoms in the order of their first words. */
        private final int[] order = new int[SETS];
        /** Bit s stands for the atom whose set is s. */
        private long present = 0;
        /** The first word of an atom, by its set: its first letter, and the set of the atom of what follows. */
        private final int[] firstLetters = new int[SETS];
        private final int[] followers = new int[SETS];
        /** The atoms, as in present, whose sets contain a set of states, and those whose sets avoid it. */
        private final long[] containing = new long[SETS];
        private final long[] avoiding = new long[SETS];
        /** The sets of states that the quotients of an atom contain and avoid, as one number. */
        private final int[] pairs = new int[MAX_KEYS];
        private final int[] images = new int[SETS];

        Atoms(KeyTable keys) {
            this.keys = keys;
        }

        int codeBound() {
            return SETS;
        }

        int startCode() {
            return base.finals;
        }

        int follow(int code, int letter) {
            return backward.of(letter, code);
        }

        boolean isAccepting(int code) {
            return (code & 1) == 1;
        }

        /** Goes by levels, letters first: the words of a level are ordered by their first letter before their rest. */
        void find() {
            backward.fillBackward(base);
            present = 0;
            count = 0;
            addAtom(startCode(), 0, startCode());
            int begin = 0;
            for (int level = 0; level < SETS && begin < count; level++) {
                int end = count;
                for (int letter = 0; letter < LETTERS; letter++) {
                    for (int i = begin; i < end; i++) {
                        addAtom(follow(order[i], letter), letter, order[i]);
                    }
                }
                begin = end;
            }
        }

        private void addAtom(int set, int letter, int follower) {
            if (!holds(present, set)) {
                present |= 1L << set;
                firstLetters[set] = letter;
                followers[set] = follower;
                order[count] = set;
                count++;
            }
        }

        private static boolean holds(long language, int set) {
            return (language >>> set & 1L) == 1L;
        }

        int numberOf(int set) {
            return Long.bitCount(present & (1L << set) - 1L);
        }

        int setOf(int atom) {
            int number = 0;
            for (int set = 0; set < SETS; set++) {
                if (holds(present, set)) {
                    if (number == atom) {
                        return set;
                    }
                    number++;
                }
            }
            return 0;
        }

        int setOfWord(Word word) {
            int set = startCode();
            for (int i = word.length - 1; i >= 0; i--) {
                set = follow(set, word.letters[i]);
            }
            return set;
        }

        long targetsOf(int set, int letter) {
            long targets = 0;
            for (int i = 0; i < count; i++) {
                if (follow(order[i], letter) == set) {
                    targets |= 1L << numberOf(order[i]);
                }
            }
            return targets;
        }

        long initialOnes() {
            long initial = 0;
            for (int i = 0; i < count; i++) {
                if (isAccepting(order[i])) {
                    initial |= 1L << numberOf(order[i]);
                }
            }
            return initial;
        }

        int firstWordLength(int set) {
            int length = 0;
            int at = set;
            while (at != startCode() && length < SETS) {
                at = followers[at];
                length++;
            }
            return length;
        }

        /** To be called only if the word has room for it. */
        void writeFirstWord(int set, Word word) {
            int length = firstWordLength(set);
            int at = set;
            word.length = 0;
            for (int i = 0; i < length; i++) {
                word.add(firstLetters[at]);
                at = followers[at];
            }
        }

        /**
         * The quotient of an atom by a word u consists of the atoms whose sets contain all states to which u leads
         * from the set of the atom, and none to which u leads from the other states.
         */
        int countQuotients(int set) {
            forward.fillForward(base);
            fillLanguages();
            keys.begin(MAX_KEYS);
            addPair(set, (1 << base.states) - 1 & ~set);
            for (int i = 0; i < keys.count && i < MAX_KEYS; i++) {
                int inside = pairs[i] / SETS;
                int outside = pairs[i] % SETS;
                for (int letter = 0; letter < LETTERS; letter++) {
                    addPair(forward.of(letter, inside), forward.of(letter, outside));
                }
            }
            return keys.count;
        }

        private void addPair(int inside, int outside) {
            int known = keys.count;
            keys.place(containing[inside] & avoiding[outside]);
            if (keys.count > known) {
                pairs[known] = inside * SETS + outside;
            }
        }

        private void fillLanguages() {
            containing[0] = present;
            avoiding[0] = present;
            for (int set = 1; set < 1 << base.states; set++) {
                int rest = set & set - 1;
                int lowest = set & -set;
                if (rest == 0) {
                    containing[set] = atomsWith(set);
                    avoiding[set] = present & ~containing[set];
                } else {
                    containing[set] = containing[rest] & containing[lowest];
                    avoiding[set] = avoiding[rest] & avoiding[lowest];
                }
            }
        }

        private long atomsWith(int single) {
            long with = 0;
            for (int i = 0; i < count; i++) {
                if ((order[i] & single) != 0) {
                    with |= 1L << order[i];
                }
            }
            return with;
        }

        /** Writes the minimal automaton of a union of atoms; answers 7, with a useless one, if it is too great. */
        int writeUnion(long numbers, Automaton automaton) {
            keys.begin(MAX_STATES + 1);
            keys.place(languageOf(numbers));
            automaton.clear(1);
            for (int state = 0; state < keys.count && state < MAX_STATES; state++) {
                long language = keys.keys[state];
                automaton.mark(state, holds(language, startCode()));
                for (int letter = 0; letter < LETTERS; letter++) {
                    int next = keys.place(quotient(language, letter));
                    if (next >= MAX_STATES) {
                        return MAX_STATES + 1;
                    }
                    automaton.lead(state, letter, next);
                }
            }
            automaton.states = keys.count;
            return keys.count;
        }

        private long languageOf(long numbers) {
            long language = 0;
            for (int i = 0; i < count; i++) {
                if (holds(numbers, numberOf(order[i]))) {
                    language |= 1L << order[i];
                }
            }
            return language;
        }

        private long quotient(long language, int letter) {
            long result = 0;
            for (int i = 0; i < count; i++) {
                if (holds(language, follow(order[i], letter))) {
                    result |= 1L << order[i];
                }
            }
            return result;
        }

        /**
         * Whether the atom of a word tells if the word is in the language of another minimal automaton. Then it
         * tells it of all words that end with this word too, and so it tells the word's atom of the other language.
         */
        boolean determine(Automaton other) {
            otherBackward.fillBackward(other);
            for (int set = 0; set < SETS; set++) {
                images[set] = UNKNOWN;
            }
            images[startCode()] = other.finals;
            for (int i = 0; i < count; i++) {
                for (int letter = 0; letter < LETTERS; letter++) {
                    int next = follow(order[i], letter);
                    int image = otherBackward.of(letter, images[order[i]]);
                    if (images[next] == UNKNOWN) {
                        images[next] = image;
                    } else if (images[next] != image) {
                        return false;
                    }
                }
            }
            return true;
        }
    }

    /** A row of shares; it is missing while its length is 0. */
    private static final class Row {
        private boolean single = false;
        private int length = 0;
        private final float[] floats = new float[MAX_LENGTH + 1];
        private final double[] doubles = new double[MAX_LENGTH + 1];
        /** How many words of a length lead from each state to a final one. */
        private long[] ways = new long[MAX_STATES];
        private long[] longerWays = new long[MAX_STATES];

        /** Takes the shares of all lengths from 0 to one of at most 20. */
        void fill(Automaton automaton, int maxLength, boolean newSingle) {
            single = newSingle;
            length = 0;
            for (int state = 0; state < automaton.states; state++) {
                ways[state] = automaton.isAccepting(state) ? 1 : 0;
            }
            long all = 1;
            for (int n = 0; n <= maxLength; n++) {
                add((double) ways[0] / (double) all);
                lengthen(automaton);
                all = all * LETTERS;
            }
        }

        private void add(double value) {
            if (length > MAX_LENGTH) {
                return;
            }
            if (single) {
                floats[length] = (float) value;
            } else {
                doubles[length] = value;
            }
            length++;
        }

        private void lengthen(Automaton automaton) {
            for (int state = 0; state < automaton.states; state++) {
                long sum = 0;
                for (int letter = 0; letter < LETTERS; letter++) {
                    sum += ways[automaton.follow(state, letter)];
                }
                longerWays[state] = sum;
            }
            long[] shorterWays = ways;
            ways = longerWays;
            longerWays = shorterWays;
        }

        boolean isZero(int index) {
            return single ? floats[index] == 0.0f : doubles[index] == 0.0;
        }

        double rest(int dividend, int divisor) {
            if (single) {
                return (double) floatRest(floats[dividend], floats[divisor]);
            }
            return doubleRest(doubles[dividend], doubles[divisor]);
        }

        /**
         * The rules leave no operator % for doubles. Doubling is exact, and so is a difference whose minuend is at
         * most twice the subtrahend: what is left at the end is what % answers.
         */
        private static double doubleRest(double dividend, double divisor) {
            double rest = dividend;
            for (int digit = 0; digit < MAX_DIGITS && rest >= divisor; digit++) {
                double part = divisor;
                for (int i = 0; i < MAX_DIGITS && part + part <= rest; i++) {
                    part = part + part;
                }
                rest = rest - part;
            }
            return rest;
        }

        private static float floatRest(float dividend, float divisor) {
            float rest = dividend;
            for (int digit = 0; digit < MAX_DIGITS && rest >= divisor; digit++) {
                float part = divisor;
                for (int i = 0; i < MAX_DIGITS && part + part <= rest; i++) {
                    part = part + part;
                }
                rest = rest - part;
            }
            return rest;
        }
    }
}
