import java.lang.management.ManagementFactory;
import java.lang.reflect.Array;
import java.lang.reflect.Constructor;
import java.lang.reflect.Field;
import java.lang.reflect.Method;
import java.lang.reflect.Modifier;
import java.util.Arrays;
import java.util.TreeSet;

/** The public face, and that a run keeps to its room: the rules that the document and LANGUAGE.md set for all promises. */
public final class FaceTest {
    private static final String[] CONSTANTS = {
        "NONE", "UNENDED", "WORD", "NAME", "SCOPE", "KIND", "ROOM", "PROOF", "STACK", "MATCH", "APART"
    };
    private static final String[] METHODS = {
        "int feed(long, int)", "int clear()", "int read()", "int place()", "int count(int)", "long label(int)",
        "long symbol(int, int)", "long hypothesis(int, int)", "int pairs(int)", "boolean apart(int, long, long)",
        "int steps(int)", "int depth(int)", "int uses(int, int)", "boolean proved(int)"
    };

    private FaceTest() {
    }

    public static void main(String[] args) throws Exception {
        constants();
        methods();
        anyArguments();
        room();
        Check.end();
    }

    private static void constants() throws Exception {
        for (int i = 0; i < CONSTANTS.length; i++) {
            Field field = ProofLedger.class.getField(CONSTANTS[i]);
            Check.due(CONSTANTS[i], field.getInt(null), -1 - i);
            Check.due(CONSTANTS[i] + " is final", Modifier.isFinal(field.getModifiers()), true);
        }
        for (Field field : ProofLedger.class.getDeclaredFields()) {
            boolean told = Arrays.asList(CONSTANTS).contains(field.getName());
            Check.due(field.getName() + " is private", Modifier.isPrivate(field.getModifiers()), !told);
        }
    }

    private static void methods() {
        Check.due("final", Modifier.isFinal(ProofLedger.class.getModifiers()), true);
        TreeSet<String> found = new TreeSet<>();
        for (Method method : ProofLedger.class.getDeclaredMethods()) {
            if (!Modifier.isPrivate(method.getModifiers())) {
                Check.due(method + " is public", Modifier.isPublic(method.getModifiers()), true);
                String parameters = Arrays.toString(method.getParameterTypes()).replace('[', '(').replace(']', ')');
                found.add(method.getReturnType() + " " + method.getName() + parameters);
            }
        }
        Check.due("methods " + found, found.equals(new TreeSet<>(Arrays.asList(METHODS))), true);
        Constructor<?>[] constructors = ProofLedger.class.getDeclaredConstructors();
        Check.due("constructors", constructors.length, 1);
        Check.due("its parameters", constructors[0].getParameterCount(), 0);
        for (Class<?> inside : ProofLedger.class.getDeclaredClasses()) {
            Check.due(inside + " is static", Modifier.isStatic(inside.getModifiers()), true);
            Check.due(inside + " is not public", Modifier.isPublic(inside.getModifiers()), false);
        }
    }

    private static void anyArguments() {
        ProofLedger x = Check.reads("$c a $. l $a a $. m $p a $= l $.", 2);
        int[] wild = {Integer.MIN_VALUE, -41, -2, -1, 2, 3, 39, 40, 41, 60, 1600, Integer.MAX_VALUE};
        for (int k : wild) {
            Check.due("count " + k, x.count(k), k == 2 || k == 3 ? 0 : -1);
            Check.due("label " + k, x.label(k), -1);
            Check.due("symbol " + k, x.symbol(k, 0), -1);
            Check.due("symbol of 0, " + k, x.symbol(0, k), -1);
            Check.due("hypothesis " + k, x.hypothesis(k, 0), -1);
            Check.due("hypothesis of 0, " + k, x.hypothesis(0, k), -1);
            Check.due("pairs " + k, x.pairs(k), -1);
            Check.due("apart " + k, x.apart(k, 97, 98), false);
            Check.due("steps " + k, x.steps(k), -1);
            Check.due("depth " + k, x.depth(k), -1);
            Check.due("uses " + k, x.uses(k, 0), -1);
            Check.due("uses of 1, " + k, x.uses(1, k), 0);
            Check.due("proved " + k, x.proved(k), false);
        }
    }

    private static void room() throws Exception {
        long elements = elementsOf(new ProofLedger());
        System.out.println("an object has " + elements + " fields and elements");
        Check.due("512 new objects fit the room", elements * 512 < 7_300_000, true);
        ProofLedger x = new ProofLedger();
        Check.feed(x, "$c a $. $v x y $. f $f a x $. g $f a y $. ${ $d x y $. l $a a x y $. "
            + "m $p a x y $= ( l ) ABC $. $} $( " + "word ".repeat(280) + "$)");
        Check.due("a full text", x.read(), 2);
        com.sun.management.ThreadMXBean bean =
            (com.sun.management.ThreadMXBean) ManagementFactory.getThreadMXBean();
        long self = Thread.currentThread().getId();
        useAll(x, 50);
        long before = bean.getThreadAllocatedBytes(self);
        useAll(x, 500);
        long made = bean.getThreadAllocatedBytes(self) - before;
        // Room for what the measuring itself makes: one object in each of the reads would be seen.
        Check.due("calls make nothing: " + made + " bytes", made < 5000, true);
    }

    private static long useAll(ProofLedger x, int times) {
        long sum = 0;
        for (int i = 0; i < times; i++) {
            sum += x.read() + x.place() + x.count(i % 7) + x.label(0) + x.symbol(0, 1) + x.hypothesis(0, 1);
            sum += x.pairs(0) + x.steps(0) + x.depth(0) + x.uses(0, 0) + x.feed(' ', 1);
            sum += x.apart(0, 'x', 'y') || x.proved(0) ? 1 : 0;
        }
        return sum;
    }

    private static long elementsOf(Object object) throws Exception {
        return elementsOf(object, new java.util.IdentityHashMap<>());
    }

    private static long elementsOf(Object object, java.util.IdentityHashMap<Object, Object> seen) throws Exception {
        if (object == null || seen.put(object, object) != null) {
            return 0;
        }
        if (object.getClass().isArray()) {
            return Array.getLength(object);
        }
        long sum = 0;
        for (Field field : object.getClass().getDeclaredFields()) {
            if (!Modifier.isStatic(field.getModifiers())) {
                field.setAccessible(true);
                sum += 1 + (field.getType().isPrimitive() ? 0 : elementsOf(field.get(object), seen));
            }
        }
        return sum;
    }
}
