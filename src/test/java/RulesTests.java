import java.lang.management.ManagementFactory;
import java.lang.reflect.Field;
import java.lang.reflect.Method;
import java.lang.reflect.Modifier;
import java.nio.charset.StandardCharsets;
import java.nio.file.Files;
import java.nio.file.Path;
import java.util.ArrayList;
import java.util.Arrays;
import java.util.List;
import java.util.Set;
import java.util.TreeSet;

/** The face of the class, the rules of LANGUAGE.md that can be seen from outside, and the room that a run takes. */
public final class RulesTests {
    /** An object is used for at most 512 calls; two rounds of these are within them. */
    private static final int CALLS = 248;
    private static final String[] FACE = {
        "void reset(int,int) IndexOutOfBoundsException,IllegalArgumentException",
        "void setTarget(int,int,int,int) IndexOutOfBoundsException",
        "boolean setFinal(int,int,boolean) IndexOutOfBoundsException",
        "int stateCount(int) IndexOutOfBoundsException",
        "int target(int,int,int) IndexOutOfBoundsException",
        "boolean isFinal(int,int) IndexOutOfBoundsException",
        "void randomize(int,int) IndexOutOfBoundsException",
        "void makeWitness(int,int) IndexOutOfBoundsException,IllegalArgumentException",
        "int appendLetter(int) IndexOutOfBoundsException,IllegalStateException",
        "int clearWord() ",
        "int wordLetter(int) IndexOutOfBoundsException",
        "boolean accepts(int) IndexOutOfBoundsException",
        "int size(int) IndexOutOfBoundsException",
        "int minimize(int) IndexOutOfBoundsException",
        "int quotientOfWord(int) IndexOutOfBoundsException",
        "int atomCount(int) IndexOutOfBoundsException",
        "int atomSet(int,int) IndexOutOfBoundsException",
        "int atomOfWord(int) IndexOutOfBoundsException",
        "long atomTargets(int,int,int) IndexOutOfBoundsException",
        "long initialAtoms(int) IndexOutOfBoundsException",
        "int finalAtom(int) IndexOutOfBoundsException",
        "int takeAtomWord(int,int) IndexOutOfBoundsException,IllegalStateException",
        "int atomSize(int,int) IndexOutOfBoundsException",
        "int resultSize(int,int,int) IllegalArgumentException,IndexOutOfBoundsException",
        "int starSize(int) IndexOutOfBoundsException",
        "int combine(int,int,int,int) IllegalArgumentException,IndexOutOfBoundsException,IllegalStateException",
        "int star(int,int) IndexOutOfBoundsException,IllegalStateException",
        "int reverse(int,int) IndexOutOfBoundsException,IllegalStateException",
        "int uniteAtoms(int,long,int) IndexOutOfBoundsException,IllegalArgumentException,IllegalStateException",
        "boolean isUnionOfAtoms(int,int) IndexOutOfBoundsException",
        "int takeDifference(int,int) IndexOutOfBoundsException,NoSuchElementException,IllegalStateException",
        "double share(int,int) IndexOutOfBoundsException,IllegalArgumentException",
        "void keepShares(int,int,int,boolean) IndexOutOfBoundsException,IllegalArgumentException",
        "double remainder(int,int,int) IllegalArgumentException,IllegalStateException,IndexOutOfBoundsException,"
            + "ArithmeticException",
        "void save() ",
        "void restore() IllegalStateException"};
    private static final String[] FORBIDDEN = {"->", "::", "\\btry\\b", "\\bcatch\\b", "\\bfinally\\b",
        "\\bsynchronized\\b", "\\bassert\\b", "Exact\\b", "\\bThread\\b", "\\bRandom\\b", "\\bSystem\\.(?!arraycopy)",
        "\\bdouble\\[\\]\\[", "\\bpackage\\b", "@", "\\bMath\\."};
    private static int wrong = 0;

    private static void due(boolean fine, String what) {
        if (!fine) {
            wrong++;
            System.out.println("rules: " + what);
        }
    }

    private static String names(Class<?>[] types) {
        List<String> names = new ArrayList<>();
        for (Class<?> type : types) {
            names.add(type.getSimpleName());
        }
        return String.join(",", names);
    }

    private static void checkFace() {
        Class<?> face = LanguageAtoms.class;
        due(face.getModifiers() == (Modifier.PUBLIC | Modifier.FINAL), "the class is public and final");
        Set<String> found = new TreeSet<>();
        for (Method method : face.getDeclaredMethods()) {
            if (Modifier.isPublic(method.getModifiers())) {
                found.add(method.getReturnType().getSimpleName() + " " + method.getName() + "("
                    + names(method.getParameterTypes()) + ") " + names(method.getExceptionTypes()));
            } else {
                due(Modifier.isPrivate(method.getModifiers()), method.getName() + " is public or private");
            }
        }
        due(found.equals(new TreeSet<>(Arrays.asList(FACE))), "the face is the document's: " + found);
        due(face.getConstructors().length == 1 && face.getDeclaredConstructors().length == 1, "one constructor");
        for (Field field : face.getDeclaredFields()) {
            due(Modifier.isPrivate(field.getModifiers()), field.getName() + " is private");
        }
    }

    private static void checkNested() {
        Set<String> publicNames = new TreeSet<>();
        for (Method method : LanguageAtoms.class.getDeclaredMethods()) {
            if (Modifier.isPublic(method.getModifiers())) {
                publicNames.add(method.getName());
            }
        }
        List<Class<?>> classes = new ArrayList<>(Arrays.asList(LanguageAtoms.class.getDeclaredClasses()));
        due(classes.size() < 12, "at most twelve classes");
        for (Class<?> nested : classes) {
            int modifiers = nested.getModifiers();
            due(Modifier.isStatic(modifiers) && !Modifier.isPublic(modifiers) && !Modifier.isProtected(modifiers),
                nested + " is static and not visible");
            for (Method method : nested.getDeclaredMethods()) {
                due(!publicNames.contains(method.getName()), method + " bears the name of a public one");
                due(method.getParameterCount() <= 7, method + " takes at most seven parameters");
            }
        }
        classes.add(LanguageAtoms.class);
        for (Class<?> each : classes) {
            int fields = 0;
            for (Field field : each.getDeclaredFields()) {
                boolean isStatic = Modifier.isStatic(field.getModifiers());
                due(!isStatic || Modifier.isFinal(field.getModifiers()), field + " is final");
                fields += isStatic ? 0 : 1;
            }
            due(fields <= 20, each + " has at most twenty fields");
        }
    }

    private static void checkSource(String path) throws Exception {
        String source = Files.readString(Path.of(path), StandardCharsets.UTF_8);
        String code = source.replaceAll("(?s)/\\*.*?\\*/", "").replaceAll("//[^\n]*", "");
        for (String pattern : FORBIDDEN) {
            due(code.split(pattern, -1).length == 1, "the source holds " + pattern);
        }
        due(source.chars().allMatch(c -> c == '\n' || c >= 32 && c < 127), "the source is plain ASCII");
        for (String line : code.split("\n")) {
            due(!line.startsWith("import") || line.equals("import java.util.NoSuchElementException;"), line);
        }
    }

    private static long dearCalls(LanguageAtoms x) {
        long sum = 0;
        for (int i = 0; i < CALLS / 8; i++) {
            sum += x.atomSize(0, 7) + x.resultSize(4, 0, 1) + x.starSize(0) + x.atomTargets(0, 5, 1);
            sum += x.uniteAtoms(0, -1L, 2) + x.size(1);
            x.keepShares(0, 0, 20, true);
            sum += x.isUnionOfAtoms(0, 1) ? 1 : 0;
        }
        return sum;
    }

    /** No call makes an object: a run's room is what its constructors take. */
    private static void checkRoom() {
        com.sun.management.ThreadMXBean bean = (com.sun.management.ThreadMXBean) ManagementFactory.getThreadMXBean();
        long thread = Thread.currentThread().getId();
        LanguageAtoms x = new LanguageAtoms();
        x.makeWitness(0, 6);
        x.makeWitness(1, 6);
        long sum = dearCalls(x);
        long before = bean.getThreadAllocatedBytes(thread);
        sum -= dearCalls(x);
        long taken = bean.getThreadAllocatedBytes(thread) - before;
        due(sum == 0, "the same calls give the same answers");
        due(taken < 10_000, CALLS + " calls take " + taken + " bytes");
        before = bean.getThreadAllocatedBytes(thread);
        LanguageAtoms another = new LanguageAtoms();
        taken = bean.getThreadAllocatedBytes(thread) - before;
        due(another.size(0) == 1 && taken < 60_000, "an object takes " + taken + " bytes");
    }

    public static void main(String[] args) throws Exception {
        checkFace();
        checkNested();
        checkSource(args.length > 0 ? args[0] : "src/main/java/LanguageAtoms.java");
        checkRoom();
        System.out.println(wrong == 0 ? "the rules are kept" : wrong + " rules are broken");
        if (wrong != 0) {
            System.exit(1);
        }
    }
}
