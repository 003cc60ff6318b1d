/** Compares answers with what is due, and counts what was otherwise. */
final class Check {
    interface Call {
        void run();
    }

    private static int compared = 0;
    private static int wrong = 0;

    private Check() {
    }

    static void same(String call, long due, long got) {
        compared++;
        if (due != got) {
            tellWrong(call, String.valueOf(due), String.valueOf(got));
        }
    }

    static void sameDouble(String call, double due, double got) {
        compared++;
        if (Double.compare(due, got) != 0) {
            tellWrong(call, String.valueOf(due), String.valueOf(got));
        }
    }

    static void sameText(String call, String due, String got) {
        compared++;
        if (!due.equals(got)) {
            tellWrong(call, due, got);
        }
    }

    /** The call must throw an exception of exactly this class. */
    static void refused(String call, Class<? extends RuntimeException> due, Call run) {
        sameText(call, due.getName(), thrownBy(run));
    }

    /** The call must throw an exception of exactly this class, and change nothing. */
    static void refusedUnchanged(GloveCutters x, String call, Class<? extends RuntimeException> due, Call run) {
        long before = x.digest();
        refused(call, due, run);
        same(call + " changes nothing", before, x.digest());
    }

    static String thrownBy(Call run) {
        try {
            run.run();
            return "nothing";
        } catch (RuntimeException e) {
            return e.getClass().getName();
        }
    }

    private static void tellWrong(String call, String due, String got) {
        wrong++;
        if (wrong <= 50) {
            System.out.println("      " + call + ": due is " + due + ", got " + got);
        }
    }

    /** Ends the test: with exit code 1 if an answer was wrong, or none was looked at. */
    static void end() {
        if (wrong > 0 || compared == 0) {
            System.out.println("      " + wrong + " of " + compared + " answers are not as due");
            System.exit(1);
        }
        System.out.println("      " + compared + " answers are as due");
    }
}
