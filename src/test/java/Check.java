import java.lang.reflect.InvocationTargetException;
import java.lang.reflect.Method;
import java.util.Arrays;
import java.util.Comparator;

/** Counts the answers of one test that are not as due, and tells each of them. */
final class Check {
    static final Class<? extends RuntimeException> INDEX = IndexOutOfBoundsException.class;
    static final Class<? extends RuntimeException> ARGUMENT = IllegalArgumentException.class;
    static final Class<? extends RuntimeException> STATE = IllegalStateException.class;

    private String test;
    private int asked;
    private int wrong;

    Check(String test) {
        this.test = test;
    }

    void due(String what, long got, long want) {
        asked++;
        if (got != want) {
            tell(what + " answered " + got + ", due is " + want);
        }
    }

    void due(String what, boolean got, boolean want) {
        due(what, got ? 1 : 0, want ? 1 : 0);
    }

    /** The class has to be the very one, since what the machine throws is of a class below it. */
    void fails(String what, Class<? extends RuntimeException> want, Runnable call) {
        Class<?> got = null;
        try {
            call.run();
        } catch (RuntimeException thrown) {
            got = thrown.getClass();
        }
        asked++;
        if (got != want) {
            tell(what + " threw " + got + ", due is " + want);
        }
    }

    void going(String what, Cloudseed x, int site, int kind, int number, int had) {
        due(what + ": kind", x.goingOn(site, 0), kind);
        due(what + ": number", x.goingOn(site, 1), number);
        due(what + ": slots", x.goingOn(site, 2), had);
    }

    void idle(String what, Cloudseed x, int site) {
        going(what, x, site, Cloudseed.IDLE, Cloudseed.NONE, 0);
    }

    void datum(Cloudseed x, int data, int... want) {
        for (int what = 0; what < want.length; what++) {
            due("data " + data + ", what " + what, x.datum(data, what), want[what]);
        }
    }

    void tell(String what) {
        wrong++;
        System.out.println(test + ": " + what);
    }

    /** Runs each method whose name begins with constant or promise, so that none is forgotten. */
    void runEach(Class<?> tests) {
        String all = test;
        Method[] methods = tests.getDeclaredMethods();
        Arrays.sort(methods, Comparator.comparing(Method::getName));
        int ran = 0;
        for (Method one : methods) {
            if (one.getName().startsWith("promise") || one.getName().startsWith("constant")) {
                test = all + "." + one.getName();
                runOne(one);
                ran++;
            }
        }
        test = all + ", " + ran + " tests";
        end();
    }

    private void runOne(Method one) {
        int before = asked;
        try {
            one.setAccessible(true);
            one.invoke(null);
        } catch (InvocationTargetException e) {
            tell("ended with " + e.getCause());
            e.getCause().printStackTrace(System.out);
        } catch (IllegalAccessException e) {
            tell("can't be run");
        }
        if (asked == before) {
            tell("asks nothing");
        }
    }

    void end() {
        System.out.println(test + ": " + asked + " answers, " + wrong + " not as due");
        if (wrong != 0) {
            System.exit(1);
        }
    }
}
