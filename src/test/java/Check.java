import java.lang.reflect.Method;
import java.util.HashMap;
import java.util.Map;

/** Makes calls by their names, and tells those whose answer is not the one that is due. */
final class Check {
    private static final Map<String, Method> METHODS = new HashMap<>();
    private static final int[] FAR = {Integer.MIN_VALUE, Integer.MAX_VALUE};
    private static final long LONGEST_TEST = 300_000;

    static {
        // a call that does not end is wrong, too
        Thread watch = new Thread(Check::endAfterAll);
        watch.setDaemon(true);
        watch.start();
        for (Method method : StoneRiver.class.getDeclaredMethods()) {
            METHODS.put(method.getName(), method);
        }
    }

    private int asked;
    private int wrong;

    private static void endAfterAll() {
        try {
            Thread.sleep(LONGEST_TEST);
        } catch (InterruptedException e) {
            System.out.println("the watch was stopped");
        }
        System.out.println("a call did not end");
        Runtime.getRuntime().halt(1);
    }

    /** Calls the method of that name; an exception counts as a failure of the whole test. */
    static long call(StoneRiver x, String name, long... args) {
        Method method = METHODS.get(name);
        Object[] boxed = new Object[args.length];
        for (int i = 0; i < args.length; i++) {
            boolean wide = method.getParameterTypes()[i] == long.class;
            boxed[i] = wide ? (Object) args[i] : (Object) Math.toIntExact(args[i]);
        }
        try {
            return ((Number) method.invoke(x, boxed)).longValue();
        } catch (ReflectiveOperationException e) {
            throw new IllegalStateException(told(name, args), e);
        }
    }

    void due(long want, StoneRiver x, String name, long... args) {
        same(told(name, args), want, call(x, name, args));
    }

    void same(String what, long want, long got) {
        asked++;
        if (got != want) {
            wrong++;
            System.out.println(what + " answered " + got + ", due is " + want);
        }
    }

    /** The call is refused and changes nothing that the digest tells. */
    void refused(long want, StoneRiver x, String name, long... args) {
        long before = x.digest();
        due(want, x, name, args);
        same("digest() after the refused " + told(name, args), before, x.digest());
    }

    /** Each number just outside its range (least and most by turns), and far outside, is refused. */
    void ranges(long want, StoneRiver x, String name, long[] good, long... leastAndMost) {
        for (int i = 0; i < good.length; i++) {
            long[] args = good.clone();
            args[i] = leastAndMost[2 * i] - 1;
            refused(want, x, name, args);
            args[i] = leastAndMost[2 * i + 1] + 1;
            refused(want, x, name, args);
            for (int far : FAR) {
                args[i] = far;
                refused(want, x, name, args);
            }
        }
    }

    /** Types a text byte by byte. */
    static void type(StoneRiver x, String text) {
        for (int i = 0; i < text.length(); i++) {
            x.type(text.charAt(i), 1);
        }
    }

    /** The whole text instead of what was there. */
    static void retype(StoneRiver x, String text) {
        x.clear();
        type(x, text);
    }

    int asked() {
        return asked;
    }

    int wrong() {
        return wrong;
    }

    void end() {
        System.out.println(asked + " answers, " + wrong + " not as due");
        if (wrong != 0 || asked == 0) {
            System.exit(1);
        }
    }

    static String told(String name, long... args) {
        StringBuilder told = new StringBuilder(name).append('(');
        for (int i = 0; i < args.length; i++) {
            told.append(i == 0 ? "" : ", ").append(args[i]);
        }
        return told.append(')').toString();
    }
}
