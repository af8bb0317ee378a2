import java.util.Arrays;

/** Runs of 512 calls, the same each time, each answer compared with that of PlainClub. */
public final class LongRunsTest {
    private static final String[] NAMES = {"addStation", "join", "turn", "wind", "listen", "renew", "station",
        "member", "strength", "hears", "log", "write", "pass", "count", "rank", "dial", "next", "apart",
        "foresee", "mean", "digest"};
    // How often each of these is called; the first two come often enough to fill the club.
    private static final int[] WEIGHTS = {5, 4, 8, 3, 3, 5, 4, 5, 4, 4, 5, 12, 9, 3, 4, 4, 4, 1, 3, 1, 1};

    private static final int WRITE = 11;

    private static long seed;
    private static int[] told = new int[NAMES.length];
    private static int thrown = 0;
    private static int callsWithFullMail = 0;

    public static void main(String[] args) {
        for (int run = 0; run < 300; run++) {
            seed = 1000003L * run + 17;
            compareRun(run);
        }
        for (int i = 0; i < NAMES.length; i++) {
            Checks.note(told[i] > 50, NAMES[i] + " was compared only " + told[i] + " times");
        }
        Checks.note(thrown > 1000, "exceptions were compared only " + thrown + " times");
        Checks.note(callsWithFullMail > 100, "all letters were on their way in only " + callsWithFullMail + " calls");
        Checks.end("LongRunsTest");
    }

    private static void compareRun(int run) {
        CrystalClub club = new CrystalClub();
        PlainClub plain = new PlainClub();
        boolean isKind = run % 3 != 0;
        boolean writesMuch = run % 6 == 5;
        for (int call = 0; call < 512; call++) {
            int which = call < 20 && isKind ? call % 2 : writesMuch && below(2) == 0 ? WRITE : pick();
            int[] a = arguments(which, plain, isKind);
            String got = answer(which, a, club, null);
            String want = answer(which, a, null, plain);
            told[which]++;
            callsWithFullMail += plain.count(7) == 30 ? 1 : 0;
            thrown += want.startsWith("throws") ? 1 : 0;
            String told = "run " + run + ", call " + call + ": " + NAMES[which] + Arrays.toString(a);
            Checks.note(got.equals(want), told + " answered " + got + ", due is " + want);
            Checks.note(club.digest() == plain.digest(), told + " left another digest");
        }
    }

    private static int below(int bound) {
        seed = seed * 6364136223846793005L + 1442695040888963407L;
        return (int) ((seed >>> 33) % bound);
    }

    private static int pick() {
        int sum = 0;
        for (int weight : WEIGHTS) {
            sum += weight;
        }
        int at = below(sum);
        for (int which = 0; which < WEIGHTS.length; which++) {
            at -= WEIGHTS[which];
            if (at < 0) {
                return which;
            }
        }
        return 0;
    }

    /** A number from least to most, often one of these two, now and then one that is beyond. */
    private static int number(int least, int most) {
        switch (below(30)) {
            case 0: return least - 1;
            case 1: return most + 1;
            case 2: return least;
            case 3: return most;
            case 4: return below(12) == 0 ? (below(2) == 0 ? Integer.MIN_VALUE : Integer.MAX_VALUE) : most;
            default: return most >= least ? least + below(most - least + 1) : least;
        }
    }

    private static int[] arguments(int which, PlainClub plain, boolean isKind) {
        int stations = plain.count(1);
        int member = number(0, plain.count(3) - 1);
        int station = number(0, stations - 1);
        int lines = member >= 0 && member < plain.count(3) ? plain.member(member, 7) : 0;
        switch (NAMES[which]) {
            case "addStation": return stationArguments(isKind);
            case "join": return new int[] {number(20, 200), isKind ? number(20, 60) : number(1, 60)};
            case "turn": return new int[] {member, usefulDial(plain, member, station)};
            case "wind": return new int[] {member, number(20, 200)};
            case "listen": return new int[] {member, below(4) == 0 ? 0 : 1};
            case "station": return new int[] {station, number(0, 5)};
            case "member": return new int[] {member, number(0, 9)};
            case "log": return new int[] {member, number(0, lines - 1), number(0, 3)};
            case "write": return new int[] {member, number(0, lines - 1)};
            case "pass": return new int[] {below(3) == 0 ? number(1, 240) : number(1, 20)};
            case "count": return new int[] {number(0, 7)};
            case "rank": return new int[] {member};
            case "apart": return new int[] {member, station, number(0, stations - 1)};
            case "foresee": return new int[] {number(1, 240), number(0, 1)};
            case "mean":
            case "digest": return new int[0];
            case "renew":
            case "hears": return new int[] {member};
            default: return new int[] {member, station};
        }
    }

    /** In a kind run stations are near and crowded, so that sets hear them, or several at once. */
    private static int[] stationArguments(boolean isKind) {
        int frequency = isKind ? 450 + 10 * below(60) : number(300, 3000);
        int far = isKind && below(2) == 0 ? number(1, 12) : number(1, 50);
        int hours = isKind ? number(8, 24) : number(1, 24);
        return new int[] {frequency, number(1, 100), far, number(0, 23), hours, number(0, 11)};
    }

    private static int usefulDial(PlainClub plain, int member, int station) {
        boolean areThere = member >= 0 && member < plain.count(3) && station >= 0 && station < plain.count(1);
        int place = areThere && below(3) != 0 ? plain.dial(member, station) : -1;
        return place >= 0 ? place : number(0, 100);
    }

    /** Exactly one of the two clubs is given. */
    private static String answer(int which, int[] a, CrystalClub x, PlainClub y) {
        try {
            switch (NAMES[which]) {
                case "addStation": return "" + (x != null ? x.addStation(a[0], a[1], a[2], a[3], a[4], a[5])
                    : y.addStation(a[0], a[1], a[2], a[3], a[4], a[5]));
                case "join": return "" + (x != null ? x.join(a[0], a[1]) : y.join(a[0], a[1]));
                case "turn": return "" + (x != null ? x.turn(a[0], a[1]) : y.turn(a[0], a[1]));
                case "wind": return "" + (x != null ? x.wind(a[0], a[1]) : y.wind(a[0], a[1]));
                case "listen": return "" + (x != null ? x.listen(a[0], a[1] == 1) : y.listen(a[0], a[1] == 1));
                case "renew": return "" + (x != null ? x.renew(a[0]) : y.renew(a[0]));
                case "station": return "" + (x != null ? x.station(a[0], a[1]) : y.station(a[0], a[1]));
                case "member": return "" + (x != null ? x.member(a[0], a[1]) : y.member(a[0], a[1]));
                case "strength": return "" + (x != null ? x.strength(a[0], a[1]) : y.strength(a[0], a[1]));
                case "hears": return "" + (x != null ? x.hears(a[0]) : y.hears(a[0]));
                case "log": return "" + (x != null ? x.log(a[0], a[1], a[2]) : y.log(a[0], a[1], a[2]));
                case "write": return "" + (x != null ? x.write(a[0], a[1]) : y.write(a[0], a[1]));
                case "pass": return "" + (x != null ? x.pass(a[0]) : y.pass(a[0]));
                case "count": return "" + (x != null ? x.count(a[0]) : y.count(a[0]));
                case "rank": return "" + (x != null ? x.rank(a[0]) : y.rank(a[0]));
                case "dial": return "" + (x != null ? x.dial(a[0], a[1]) : y.dial(a[0], a[1]));
                case "next": return "" + (x != null ? x.next(a[0], a[1]) : y.next(a[0], a[1]));
                case "apart": return "" + (x != null ? x.apart(a[0], a[1], a[2]) : y.apart(a[0], a[1], a[2]));
                case "foresee": return "" + (x != null ? x.foresee(a[0], a[1]) : y.foresee(a[0], a[1]));
                case "mean": return "" + (x != null ? x.mean() : y.mean());
                default: return "" + (x != null ? x.digest() : y.digest());
            }
        } catch (RuntimeException e) {
            return "throws." + e.getClass().getSimpleName();
        }
    }
}
