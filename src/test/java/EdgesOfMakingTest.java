/** The boundaries that promises 1 to 7 name, each with a test of its own. */
public final class EdgesOfMakingTest {
    /** A station that is founded when nothing is wrong. */
    private static final int[] STATION = {1000, 50, 10, 0, 24, 0};

    public static void main(String[] args) {
        newObject();
        addStation();
        join();
        turnAndWind();
        listenAndRenew();
        Sentences.end("EdgesOfMakingTest");
    }

    private static void newObject() {
        Sentences.chapter("Promise 1");
        Sentences.hold("without stations and members", EdgesOfMakingTest::nothingIsThere);
        Sentences.hold("at the hour 0", EdgesOfMakingTest::timeBegins);
    }

    private static void addStation() {
        Sentences.chapter("Promise 2");
        Sentences.hold("Returns its number", EdgesOfMakingTest::stationsAreNumbered);
        Sentences.hold("frequency is not 300 to 3000", () -> stationNeeds(0, 300, 3000));
        Sentences.hold("power is not 1 to 100", () -> stationNeeds(1, 1, 100));
        Sentences.hold("far is not 1 to 50", () -> stationNeeds(2, 1, 50));
        Sentences.hold("from is not 0 to 23", () -> stationNeeds(3, 0, 23));
        Sentences.hold("hours is not 1 to 24", () -> stationNeeds(4, 1, 24));
        Sentences.hold("phase is not 0 to 11", () -> stationNeeds(5, 0, 11));
        Sentences.hold("`IllegalStateException` if there are 12", EdgesOfMakingTest::theThirteenthStationIsRefused);
    }

    private static void join() {
        Sentences.chapter("Promise 3");
        Sentences.hold("Returns the number", EdgesOfMakingTest::membersAreNumbered);
        Sentences.hold("turns is not 20 to 200", EdgesOfMakingTest::joinNeedsTurns);
        Sentences.hold("aerial is not 1 to 60", EdgesOfMakingTest::joinNeedsAnAerial);
        Sentences.hold("`IllegalStateException` if there are 8", EdgesOfMakingTest::theNinthMemberIsRefused);
    }

    private static void turnAndWind() {
        Sentences.chapter("Promise 4");
        Sentences.hold("Returns where it stood", EdgesOfMakingTest::turnTellsWhereItStood);
        Sentences.hold("if there is no such member", () -> Absent.members("turn", (club, number) -> club.turn(number, 50)));
        Sentences.hold("dial is not 0 to 100", EdgesOfMakingTest::turnNeedsADial);
        Sentences.chapter("Promise 5");
        Sentences.hold("Returns the turns before", EdgesOfMakingTest::windTellsTheTurnsBefore);
        Sentences.hold("if there is no such member", () -> Absent.members("wind", (club, number) -> club.wind(number, 50)));
        Sentences.hold("turns is not 20 to 200", EdgesOfMakingTest::windNeedsTurns);
    }

    private static void listenAndRenew() {
        Sentences.chapter("Promise 6");
        Sentences.hold("Returns whether this one did", EdgesOfMakingTest::listenTellsWhatWas);
        Sentences.hold("if there is no such member",
            () -> Absent.members("listen", (club, number) -> club.listen(number, false)));
        Sentences.chapter("Promise 7");
        Sentences.hold("Returns what the crystal was", EdgesOfMakingTest::renewTellsTheCrystal);
        Sentences.hold("if there is no such member", () -> Absent.members("renew", CrystalClub::renew));
    }

    private static void nothingIsThere() {
        CrystalClub club = new CrystalClub();
        for (int what = 1; what < 8; what++) {
            Checks.due("count(" + what + ")", club.count(what), 0);
        }
        Checks.refusesIndex(club, "station(0, 0)", () -> club.station(0, 0));
        Checks.refusesIndex(club, "member(0, 0)", () -> club.member(0, 0));
        Checks.due("pass(240)", club.pass(240), 0);
        Checks.due("foresee(240, 0)", club.foresee(240, 0), 0);
        Checks.due("foresee(240, 1)", club.foresee(240, 1), 0);
    }

    private static void timeBegins() {
        CrystalClub first = new CrystalClub();
        first.pass(5);
        CrystalClub second = new CrystalClub();
        Checks.due("count(0) of a second club", second.count(0), 0);
        Checks.due("count(0) of the first one", first.count(0), 5);
    }

    private static int found(CrystalClub club, int[] s) {
        return club.addStation(s[0], s[1], s[2], s[3], s[4], s[5]);
    }

    private static void stationsAreNumbered() {
        CrystalClub club = new CrystalClub();
        for (int number = 0; number < 12; number++) {
            Checks.due("the same station again", found(club, STATION), number);
        }
        CrystalClub other = new CrystalClub();
        Checks.due("the first one of another club", found(other, STATION), 0);
        Checks.refusesArgument(other, "a wrong one", () -> other.addStation(0, 0, 0, 0, 0, 0));
        Checks.due("the one after a refused one", found(other, STATION), 1);
    }

    /** Both ends are taken, and what is beyond them is refused, with all others at their ends too. */
    private static void stationNeeds(int which, int least, int most) {
        int[][] others = {STATION, {300, 1, 1, 0, 1, 0}, {3000, 100, 50, 23, 24, 11}};
        for (int[] station : others) {
            CrystalClub club = new CrystalClub();
            int[] s = station.clone();
            s[which] = least;
            Checks.takes("addStation with " + least, () -> found(club, s));
            s[which] = most;
            Checks.takes("addStation with " + most, () -> found(club, s));
            for (int wrong : Checks.beyond(least, most)) {
                s[which] = wrong;
                Checks.refusesArgument(club, "addStation with " + wrong, () -> found(club, s));
            }
            Checks.due("count(1)", club.count(1), 2);
        }
    }

    private static void theThirteenthStationIsRefused() {
        CrystalClub club = Clubs.of(0, 11);
        Checks.due("the twelfth", found(club, STATION), 11);
        Checks.refusesState(club, "the 13th", () -> found(club, STATION));
        club.pass(240);
        Checks.refusesState(club, "the 13th days later", () -> found(club, STATION));
        Checks.due("count(1)", club.count(1), 12);
        Checks.due("join beside twelve stations", club.join(100, 10), 0);
    }

    private static void membersAreNumbered() {
        CrystalClub club = new CrystalClub();
        for (int number = 0; number < 8; number++) {
            Checks.due("the same member again", club.join(100, 10), number);
        }
        CrystalClub other = new CrystalClub();
        Checks.due("the first one of another club", other.join(100, 10), 0);
        Checks.refusesArgument(other, "a wrong one", () -> other.join(0, 0));
        Checks.due("the one after a refused one", other.join(100, 10), 1);
    }

    private static void joinNeedsTurns() {
        for (int aerial : new int[] {1, 10, 60}) {
            CrystalClub club = new CrystalClub();
            Checks.due("join with 20 turns", club.join(20, aerial), 0);
            Checks.due("join with 200 turns", club.join(200, aerial), 1);
            for (int wrong : Checks.beyond(20, 200)) {
                Checks.refusesArgument(club, "join with turns " + wrong, () -> club.join(wrong, aerial));
            }
            Checks.due("count(3)", club.count(3), 2);
        }
    }

    private static void joinNeedsAnAerial() {
        for (int turns : new int[] {20, 100, 200}) {
            CrystalClub club = new CrystalClub();
            Checks.due("join with an aerial of 1", club.join(turns, 1), 0);
            Checks.due("join with an aerial of 60", club.join(turns, 60), 1);
            for (int wrong : Checks.beyond(1, 60)) {
                Checks.refusesArgument(club, "join with aerial " + wrong, () -> club.join(turns, wrong));
            }
            Checks.due("count(3)", club.count(3), 2);
        }
    }

    private static void theNinthMemberIsRefused() {
        CrystalClub club = Clubs.of(7, 0);
        Checks.due("the eighth", club.join(100, 10), 7);
        Checks.refusesState(club, "the ninth", () -> club.join(100, 10));
        club.pass(240);
        Checks.refusesState(club, "the ninth days later", () -> club.join(100, 10));
        Checks.due("count(3)", club.count(3), 8);
        Checks.due("addStation beside eight members", found(club, STATION), 0);
    }

    private static void turnTellsWhereItStood() {
        CrystalClub club = Clubs.of(8, 0);
        Checks.due("turn(7, 100)", club.turn(7, 100), 0);
        Checks.due("turn(7, 100) again", club.turn(7, 100), 100);
        Checks.due("turn(7, 0)", club.turn(7, 0), 100);
        Checks.due("turn(7, 0) again", club.turn(7, 0), 0);
        Checks.due("turn(0, 1)", club.turn(0, 1), 0);
    }

    private static void turnNeedsADial() {
        CrystalClub club = Clubs.withMember();
        Checks.due("turn(0, 0)", club.turn(0, 0), 0);
        Checks.due("turn(0, 100)", club.turn(0, 100), 0);
        for (int wrong : Checks.beyond(0, 100)) {
            Checks.refusesArgument(club, "turn(0, " + wrong + ")", () -> club.turn(0, wrong));
        }
        Checks.due("member(0, 1)", club.member(0, 1), 100);
    }

    private static void windTellsTheTurnsBefore() {
        CrystalClub club = Clubs.of(8, 0);
        Checks.due("wind(7, 200)", club.wind(7, 200), 100);
        Checks.due("wind(7, 200) again", club.wind(7, 200), 200);
        Checks.due("wind(7, 20)", club.wind(7, 20), 200);
        Checks.due("wind(7, 20) again", club.wind(7, 20), 20);
        Checks.due("wind(0, 50)", club.wind(0, 50), 100);
    }

    private static void windNeedsTurns() {
        CrystalClub club = Clubs.withMember();
        Checks.due("wind(0, 20)", club.wind(0, 20), 100);
        Checks.due("wind(0, 200)", club.wind(0, 200), 20);
        for (int wrong : Checks.beyond(20, 200)) {
            Checks.refusesArgument(club, "wind(0, " + wrong + ")", () -> club.wind(0, wrong));
        }
        Checks.due("member(0, 0)", club.member(0, 0), 200);
    }

    private static void listenTellsWhatWas() {
        CrystalClub club = Clubs.of(8, 0);
        Checks.due("listen(7, true) at first", club.listen(7, true), true);
        Checks.due("listen(7, false)", club.listen(7, false), true);
        Checks.due("listen(7, false) again", club.listen(7, false), false);
        Checks.due("listen(7, true)", club.listen(7, true), false);
        Checks.due("listen(7, true) again", club.listen(7, true), true);
        Checks.due("listen(0, false)", club.listen(0, false), true);
    }

    private static void renewTellsTheCrystal() {
        CrystalClub club = Clubs.of(8, 0);
        Checks.due("renew(7) of a new one", club.renew(7), 9);
        Checks.due("member(7, 3) of a new one", club.member(7, 3), 9);
        club.pass(60);
        Checks.due("renew(7) of a worn one", club.renew(7), 0);
        Checks.due("member(7, 3)", club.member(7, 3), 9);
        Checks.due("member(6, 3)", club.member(6, 3), 0);
    }
}
