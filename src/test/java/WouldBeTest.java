/** Promises 17 to 22: dial, next, apart, foresee, mean, digest. */
public final class WouldBeTest {
    public static void main(String[] args) {
        dialFindsTheStrongestPlace();
        dialTakesTheSmallestOfSeveral();
        dialNeedsThatTheSetHearsIt();
        dialFindsNoPlace();
        dialTakesTheCrystalAsItIs();
        nextCountsHours();
        apartFindsTheFewestTurns();
        apartTakesJustBothAsOnTheAir();
        apartTakesTheCrystalAsItIs();
        apartFindsNone();
        foreseeTellsWhatPassDoes();
        meanIsOfAllLines();
        digestGoesThroughAll();
        nothingIsChangedByAsking();
        Checks.end("WouldBeTest");
    }

    private static void dialFindsTheStrongestPlace() {
        CrystalClub club = new CrystalClub();
        club.addStation(800, 100, 10, 0, 24, 0);
        club.join(100, 10);
        Checks.due("dial(0, 0)", club.dial(0, 0), 25);
        Checks.due("member(0, 1)", club.member(0, 1), 0);
        club.wind(0, 50);
        Checks.due("dial(0, 0) with 50 turns", club.dial(0, 0), 75);
        club.wind(0, 25);
        Checks.due("dial(0, 0) with 25 turns", club.dial(0, 0), 100);
        club.wind(0, 125);
        Checks.due("dial(0, 0) with 125 turns", club.dial(0, 0), 0);
    }

    private static void dialTakesTheSmallestOfSeveral() {
        CrystalClub club = new CrystalClub();
        // 100000 / 199 = 502, 100000 / 200 = 500: both are 1 from 501.
        club.addStation(501, 100, 10, 0, 24, 0);
        club.join(150, 10);
        Checks.due("dial(0, 0)", club.dial(0, 0), 49);
        // Tuned to 512, 510 and 507 the strengths are all cut to 5, though 510 is nearest.
        CrystalClub flat = new CrystalClub();
        flat.addStation(509, 6, 10, 0, 24, 0);
        flat.join(180, 10);
        Checks.due("dial(0, 0) cut to 5 at several places", flat.dial(0, 0), 15);
        flat.wind(0, 100);
        Checks.due("dial(0, 0) cut to 5 from 515 to 505", flat.dial(0, 0), 94);
    }

    private static void dialNeedsThatTheSetHearsIt() {
        CrystalClub club = new CrystalClub();
        club.addStation(1000, 60, 5, 0, 24, 0);
        club.addStation(1030, 50, 30, 18, 10, 3);
        club.join(80, 20);
        Checks.due("dial(0, 0)", club.dial(0, 0), 20);
        Checks.due("dial(0, 1), beside the stronger one", club.dial(0, 1), 14);
        club.pass(4);
        Checks.due("dial(0, 1) off the air", club.dial(0, 1), -1);
    }

    private static void dialFindsNoPlace() {
        CrystalClub club = Clubs.hearing(50, 30);
        Checks.due("dial(0, 0)", club.dial(0, 0), -1);
        Checks.due("dial(0, 1)", club.dial(0, 1), -1);
    }

    /** In hour 12 the fading is that of hour 0, but the crystal is at 7, which cuts 5 to 4. */
    private static void dialTakesTheCrystalAsItIs() {
        CrystalClub club = Clubs.hearing(5);
        Checks.due("dial(0, 0) with a new crystal", club.dial(0, 0), 0);
        club.pass(12);
        Checks.due("dial(0, 0) with a worn crystal", club.dial(0, 0), -1);
        club.renew(0);
        Checks.due("dial(0, 0) with a new crystal again", club.dial(0, 0), 0);
    }

    private static void nextCountsHours() {
        CrystalClub club = Clubs.withMember();
        club.addStation(1000, 50, 10, 7, 3, 0);
        club.addStation(1000, 100, 10, 0, 8, 0);
        Checks.due("next(0, 1)", club.next(0, 1), 0);
        Checks.due("next(0, 0), behind the other one", club.next(0, 0), 8);
        club.listen(0, false);
        club.pass(5);
        Checks.due("next(0, 0)", club.next(0, 0), 3);
        Checks.due("next(0, 1)", club.next(0, 1), 0);
        club.pass(5);
        Checks.due("next(0, 0) on the next day", club.next(0, 0), 22);
        Checks.due("next(0, 1) on the next day", club.next(0, 1), 14);
    }

    private static void apartFindsTheFewestTurns() {
        CrystalClub club = new CrystalClub();
        club.addStation(1000, 60, 5, 0, 24, 0);
        club.addStation(1030, 50, 30, 18, 10, 3);
        club.addStation(640, 100, 50, 6, 12, 9);
        club.join(80, 20);
        club.join(150, 60);
        club.join(30, 5);
        Checks.due("apart(0, 0, 1)", club.apart(0, 0, 1), 20);
        Checks.due("apart(0, 1, 0)", club.apart(0, 1, 0), 20);
        Checks.due("apart(1, 0, 2)", club.apart(1, 0, 2), 43);
        Checks.due("apart(1, 2, 0)", club.apart(1, 2, 0), 43);
        Checks.due("member(1, 0)", club.member(1, 0), 150);
        Checks.due("member(1, 1)", club.member(1, 1), 0);
    }

    private static void apartTakesJustBothAsOnTheAir() {
        CrystalClub club = new CrystalClub();
        club.addStation(1000, 60, 5, 12, 1, 0);
        club.addStation(640, 60, 5, 12, 1, 0);
        club.join(100, 20);
        int alone = club.apart(0, 0, 1);
        Checks.note(alone >= 20, "apart(0, 0, 1) of two that are off the air answered " + alone);
        club.addStation(1000, 100, 1, 0, 24, 0);
        club.addStation(640, 100, 1, 0, 24, 0);
        Checks.due("apart(0, 0, 1) beside others", club.apart(0, 0, 1), alone);
    }

    private static void apartTakesTheCrystalAsItIs() {
        CrystalClub club = Clubs.hearing(5);
        Clubs.addPlain(club, 500, 100);
        Checks.due("apart(0, 0, 1) with a new crystal", club.apart(0, 0, 1), 82);
        club.pass(12);
        Checks.due("apart(0, 0, 1) with a worn crystal", club.apart(0, 0, 1), -1);
        Checks.due("apart(0, 1, 0) with a worn crystal", club.apart(0, 1, 0), -1);
        club.renew(0);
        Checks.due("apart(0, 0, 1) with a new crystal again", club.apart(0, 0, 1), 82);
    }

    private static void apartFindsNone() {
        CrystalClub same = Clubs.hearing(50, 30);
        Checks.due("of one frequency", same.apart(0, 0, 1), -1);
        CrystalClub weak = Clubs.withMember();
        weak.addStation(500, 100, 1, 0, 24, 0);
        weak.addStation(2000, 4, 10, 0, 24, 0);
        Checks.due("of a weak one", weak.apart(0, 0, 1), -1);
        CrystalClub wide = new CrystalClub();
        wide.addStation(3000, 100, 1, 0, 24, 0);
        wide.addStation(300, 100, 1, 0, 24, 0);
        wide.join(100, 60);
        Checks.due("too far apart for one dial", wide.apart(0, 0, 1), -1);
    }

    private static void foreseeTellsWhatPassDoes() {
        CrystalClub club = new CrystalClub();
        club.addStation(1000, 100, 9, 0, 24, 0);
        club.addStation(500, 7, 10, 0, 24, 0);
        club.join(100, 60);
        club.join(200, 10);
        Checks.due("foresee(1, 0)", club.foresee(1, 0), 2);
        Checks.due("foresee(24, 0)", club.foresee(24, 0), 2);
        Checks.due("foresee(25, 0), when the second crystal is worn", club.foresee(25, 0), 3);
        Checks.due("foresee(240, 1) without letters", club.foresee(240, 1), 0);
        club.pass(1);
        Checks.due("write(0, 0)", club.write(0, 0), 49);
        Checks.due("write(1, 0)", club.write(1, 0), 73);
        Checks.due("foresee(48, 1)", club.foresee(48, 1), 0);
        Checks.due("foresee(49, 1)", club.foresee(49, 1), 1);
        Checks.due("foresee(240, 1): a line of 7 is not confirmed", club.foresee(240, 1), 1);
        Checks.due("count(0)", club.count(0), 1);
        int foreseen = club.foresee(240, 0);
        Checks.due("foresee(240, 0) again", club.foresee(240, 0), foreseen);
        Checks.due("pass(240)", club.pass(240), foreseen);
        Checks.due("foresee(1, 1) of what is confirmed before", club.foresee(1, 1), 0);
    }

    private static void meanIsOfAllLines() {
        CrystalClub club = Clubs.hearing(50);
        Checks.dueD("mean() of no lines", club.mean(), 0.0);
        club.pass(1);
        Checks.dueD("mean() of one line", club.mean(), 50.0);
        club.join(100, 7);
        club.join(100, 7);
        club.pass(1);
        // 50 * 9 * 7 / 100 = 31
        Checks.dueD("mean() of three lines", club.mean(), 112.0 / 3.0);
    }

    private static void digestGoesThroughAll() {
        CrystalClub club = new CrystalClub();
        Checks.due("digest() of a new club", club.digest(), Digests.due(club));
        club.addStation(1000, 100, 9, 0, 24, 0);
        club.addStation(500, 100, 10, 5, 24, 3);
        club.join(100, 60);
        club.join(200, 10);
        club.pass(30);
        int later = club.write(1, 0);
        int sooner = club.write(0, 0);
        Checks.due("digest() with letters", club.digest(),
            Digests.due(club, new int[] {1, 0, later}, new int[] {0, 0, sooner}));
        club.pass(49);
        Checks.due("digest() with one letter", club.digest(), Digests.due(club, new int[] {1, 0, later}));
    }

    private static void nothingIsChangedByAsking() {
        CrystalClub club = Clubs.hearing(100, 20);
        Clubs.addPlain(club, 640, 50);
        club.pass(30);
        club.write(0, 0);
        long before = club.digest();
        club.dial(0, 2);
        club.next(0, 1);
        club.apart(0, 0, 2);
        club.foresee(240, 0);
        club.foresee(240, 1);
        club.mean();
        club.rank(0);
        club.hears(0);
        club.strength(0, 1);
        Checks.due("digest() after asking", club.digest(), before);
        CrystalClub twin = Clubs.hearing(100, 20);
        Clubs.addPlain(twin, 640, 50);
        twin.pass(30);
        twin.write(0, 0);
        Checks.due("pass(240) after asking", club.pass(240), twin.pass(240));
        Checks.due("digest() after pass(240)", club.digest(), twin.digest());
    }
}
