/** Counts what is due and what is not, and ends the program with exit code 1 if something is not. */
final class Checks {
    interface Call {
        void run();
    }

    private int held = 0;
    private int wrong = 0;

    void due(String what, long got, long want) {
        if (got == want) {
            held++;
        } else {
            wrong++;
            System.out.println(what + " answered " + got + ", due is " + want);
        }
    }

    void dueShare(String what, double got, double want) {
        due(what, Double.doubleToLongBits(got), Double.doubleToLongBits(want));
    }

    /** The call throws exactly this exception, and changes nothing of the object. */
    void dueThrow(String what, SplashPages pages, Class<? extends RuntimeException> want, Call call) {
        long before = pages.digest();
        String got = "nothing";
        try {
            call.run();
        } catch (RuntimeException e) {
            got = e.getClass().getName();
        }
        if (got.equals(want.getName())) {
            held++;
        } else {
            wrong++;
            System.out.println(what + " threw " + got + ", due is " + want.getName());
        }
        due(what + ": the digest behind it", pages.digest(), before);
    }

    void end() {
        System.out.println(held + " checks hold, " + wrong + " do not");
        if (wrong > 0 || held == 0) {
            System.exit(1);
        }
    }
}
