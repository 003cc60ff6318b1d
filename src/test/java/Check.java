import java.lang.reflect.InvocationTargetException;
import java.lang.reflect.Method;
import java.util.Arrays;
import java.util.Comparator;

/** Runs the tests of a class, compares answers with what is due, and counts what was otherwise. */
final class Check {
    static final Class<IndexOutOfBoundsException> INDEX = IndexOutOfBoundsException.class;
    static final Class<IllegalArgumentException> ARGUMENT = IllegalArgumentException.class;
    static final Class<IllegalStateException> STATE = IllegalStateException.class;

    private static final int MOST_LINES = 50;

    interface Call {
        void run();
    }

    interface NumberCall {
        void run(int number);
    }

    private static int compared = 0;
    private static int wrong = 0;

    private Check() {
    }

    /** Runs each method of the class whose name begins with "promise", or those of these names alone. */
    static void runAll(Class<?> tests, String[] names) {
        Method[] methods = tests.getDeclaredMethods();
        Arrays.sort(methods, Comparator.comparing(Method::getName));
        for (Method method : methods) {
            boolean wanted = names.length == 0 || Arrays.asList(names).contains(method.getName());
            if (wanted && method.getName().startsWith("promise")) {
                runOne(method);
            }
        }
        end();
    }

    private static void runOne(Method test) {
        int comparedBefore = compared;
        int wrongBefore = wrong;
        try {
            test.invoke(null);
        } catch (InvocationTargetException e) {
            tellWrong("the test", "to come to its end", String.valueOf(e.getCause()));
        } catch (IllegalAccessException e) {
            tellWrong("the test", "to be run", String.valueOf(e));
        }
        if (compared == comparedBefore) {
            tellWrong("the test", "to look at an answer", "none");
        }
        if (wrong > wrongBefore) {
            System.out.println("      broken: " + test.getName());
        }
    }

    static void same(String call, long due, long got) {
        compared++;
        if (due != got) {
            tellWrong(call, String.valueOf(due), String.valueOf(got));
        }
    }

    static void sameDouble(String call, double due, double got) {
        compared++;
        if (Double.compare(due, got) != 0) {
            tellWrong(call, String.valueOf(due), String.valueOf(got));
        }
    }

    static void sameText(String call, String due, String got) {
        compared++;
        if (!due.equals(got)) {
            tellWrong(call, due, got);
        }
    }

    /** The call must throw an exception of exactly this class, and change nothing. */
    static void refused(GloveCutters x, String call, Class<? extends RuntimeException> due, Call run) {
        long before = x.digest();
        sameText(call, due.getName(), thrownBy(run));
        same(call + " changes nothing", before, x.digest());
    }

    /** Every number that is not least..most must be refused: those beside them, and those far off. */
    static void refusedOutside(
            GloveCutters x, String call, int least, int most, Class<? extends RuntimeException> due, NumberCall run) {
        int[] outside = {Integer.MIN_VALUE, least - 1, most + 1, least + 256, least + 65536, Integer.MAX_VALUE};
        for (int number : outside) {
            refused(x, call + " " + number, due, () -> run.run(number));
        }
    }

    private static String thrownBy(Call run) {
        try {
            run.run();
            return "nothing";
        } catch (RuntimeException e) {
            return e.getClass().getName();
        }
    }

    private static void tellWrong(String call, String due, String got) {
        wrong++;
        if (wrong <= MOST_LINES) {
            System.out.println("      " + call + ": due is " + due + ", got " + got);
        }
    }

    /** Ends the test: with exit code 1 if an answer was wrong, or none was looked at. */
    static void end() {
        if (wrong > 0 || compared == 0) {
            System.out.println("      " + wrong + " of " + compared + " answers are not as due");
            System.exit(1);
        }
        System.out.println("      " + compared + " answers are as due");
    }
}
