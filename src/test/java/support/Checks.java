/** Compares answers with those that are due, and tells at the end whether one was wrong. */
final class Checks {
    interface Call {
        void run();
    }

    private static int right = 0;
    private static int wrong = 0;

    private Checks() {
    }

    static int made() {
        return right + wrong;
    }

    static int wrong() {
        return wrong;
    }

    /** Numbers below the least and above the most, near and far. */
    static int[] beyond(int least, int most) {
        return new int[] {least - 1, most + 1, -most - 1, most + 65536, Integer.MIN_VALUE, Integer.MAX_VALUE};
    }

    static void due(String call, long got, long want) {
        note(got == want, call + " answered " + got + ", due is " + want);
    }

    static void due(String call, boolean got, boolean want) {
        note(got == want, call + " answered " + got + ", due is " + want);
    }

    static void dueD(String call, double got, double want) {
        note(got == want, call + " answered " + got + ", due is " + want);
    }

    /** The call throws exactly this exception, and the club stays as it was. */
    static void refuses(CrystalClub club, String call, Class<? extends RuntimeException> want, Call body) {
        long before = club.digest();
        String got = "nothing";
        try {
            body.run();
        } catch (RuntimeException e) {
            got = e.getClass().getSimpleName();
        }
        note(got.equals(want.getSimpleName()), call + " threw " + got + ", due is " + want.getSimpleName());
        note(club.digest() == before, call + " changed the club");
    }

    static void refusesIndex(CrystalClub club, String call, Call body) {
        refuses(club, call, IndexOutOfBoundsException.class, body);
    }

    static void refusesArgument(CrystalClub club, String call, Call body) {
        refuses(club, call, IllegalArgumentException.class, body);
    }

    static void refusesState(CrystalClub club, String call, Call body) {
        refuses(club, call, IllegalStateException.class, body);
    }

    static void takes(String call, Call body) {
        String got = "nothing";
        try {
            body.run();
        } catch (RuntimeException e) {
            got = e.getClass().getSimpleName();
        }
        note(got.equals("nothing"), call + " threw " + got);
    }

    static void note(boolean isRight, String whatWasWrong) {
        if (isRight) {
            right++;
        } else {
            wrong++;
            System.out.println(whatWasWrong);
        }
    }

    static void end(String name) {
        System.out.println(name + ": " + right + " right, " + wrong + " wrong");
        System.exit(wrong == 0 ? 0 : 1);
    }
}
