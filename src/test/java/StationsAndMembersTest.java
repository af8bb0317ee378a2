/** Promises 1 to 7: a new object, addStation, join, turn, wind, listen, renew. */
public final class StationsAndMembersTest {
    public static void main(String[] args) {
        aNewClubIsEmpty();
        stationsAreNumberedAndKept();
        membersAreNumberedAndBeginFresh();
        turnMovesTheDial();
        windChangesTheCoil();
        listenTellsWhatWas();
        renewGivesANewCrystal();
        eachChangesItsOwnValuesAlone();
        Checks.end("StationsAndMembersTest");
    }

    private static void aNewClubIsEmpty() {
        CrystalClub club = new CrystalClub();
        for (int what = 0; what < 8; what++) {
            Checks.due("count(" + what + ") of a new club", club.count(what), 0);
        }
        Checks.dueD("mean()", club.mean(), 0.0);
        Checks.due("pass(240) of an empty club", club.pass(240), 0);
        CrystalClub other = new CrystalClub();
        Checks.due("count(0) of another club", other.count(0), 0);
    }

    private static void stationsAreNumberedAndKept() {
        CrystalClub club = new CrystalClub();
        Checks.due("first addStation", club.addStation(301, 2, 3, 4, 5, 6), 0);
        Checks.due("second addStation", club.addStation(301, 2, 3, 4, 5, 6), 1);
        Checks.due("third addStation", club.addStation(2999, 99, 49, 22, 23, 10), 2);
        Checks.due("station(0, 0)", club.station(0, 0), 301);
        Checks.due("station(0, 1)", club.station(0, 1), 2);
        Checks.due("station(0, 2)", club.station(0, 2), 3);
        Checks.due("station(2, 0)", club.station(2, 0), 2999);
        Checks.due("station(2, 1)", club.station(2, 1), 99);
        Checks.due("station(2, 2)", club.station(2, 2), 49);
        Checks.due("count(1)", club.count(1), 3);
        Checks.due("count(3)", club.count(3), 0);
    }

    private static void membersAreNumberedAndBeginFresh() {
        CrystalClub club = new CrystalClub();
        Checks.due("first join", club.join(20, 1), 0);
        Checks.due("second join", club.join(200, 60), 1);
        long[] first = {20, 0, 1, 9, 1, 5000, 74, 0, 0, 0};
        long[] second = {200, 0, 60, 9, 1, 500, 14, 0, 0, 0};
        for (int what = 0; what < 10; what++) {
            Checks.due("member(0, " + what + ")", club.member(0, what), first[what]);
            Checks.due("member(1, " + what + ")", club.member(1, what), second[what]);
        }
        Checks.due("count(3)", club.count(3), 2);
        Checks.due("count(4)", club.count(4), 2);
    }

    private static void turnMovesTheDial() {
        CrystalClub club = Clubs.withMember();
        club.join(100, 10);
        Checks.due("turn(0, 100)", club.turn(0, 100), 0);
        Checks.due("turn(0, 30)", club.turn(0, 30), 100);
        Checks.due("turn(0, 30)", club.turn(0, 30), 30);
        Checks.due("member(0, 1)", club.member(0, 1), 30);
        Checks.due("member(0, 5)", club.member(0, 5), 769);
        Checks.due("member(0, 6)", club.member(0, 6), 47);
        Checks.due("member(1, 1)", club.member(1, 1), 0);
        Checks.due("turn(0, 0)", club.turn(0, 0), 30);
    }

    private static void windChangesTheCoil() {
        CrystalClub club = Clubs.withMember();
        club.turn(0, 50);
        Checks.due("wind(0, 200)", club.wind(0, 200), 100);
        Checks.due("wind(0, 20)", club.wind(0, 20), 200);
        Checks.due("member(0, 0)", club.member(0, 0), 20);
        Checks.due("member(0, 1)", club.member(0, 1), 50);
        Checks.due("member(0, 5)", club.member(0, 5), 1428);
        Checks.due("member(0, 6)", club.member(0, 6), 74);
    }

    private static void listenTellsWhatWas() {
        CrystalClub club = Clubs.withMember();
        Checks.due("listen(0, true)", club.listen(0, true), true);
        Checks.due("listen(0, false)", club.listen(0, false), true);
        Checks.due("member(0, 4)", club.member(0, 4), 0);
        Checks.due("count(4)", club.count(4), 0);
        Checks.due("listen(0, false)", club.listen(0, false), false);
        Checks.due("listen(0, true)", club.listen(0, true), false);
        Checks.due("member(0, 4)", club.member(0, 4), 1);
    }

    private static void renewGivesANewCrystal() {
        CrystalClub club = Clubs.withMember();
        club.join(100, 10);
        Checks.due("renew(0)", club.renew(0), 9);
        club.pass(13);
        Checks.due("member(0, 3) after 13 hours", club.member(0, 3), 6);
        Checks.due("renew(0)", club.renew(0), 6);
        Checks.due("member(0, 3)", club.member(0, 3), 9);
        Checks.due("member(1, 3)", club.member(1, 3), 6);
    }

    /** One who does not listen any more, with a worn crystal, a turned dial, a line and a card. */
    private static CrystalClub withHistory() {
        CrystalClub club = Clubs.withMember();
        club.addStation(1000, 100, 5, 0, 24, 0);
        club.join(100, 10);
        club.pass(8);
        club.write(0, 0);
        club.pass(49);
        club.turn(0, 30);
        club.listen(0, false);
        return club;
    }

    private static void eachChangesItsOwnValuesAlone() {
        changesAlone("turn(0, 60)", club -> club.turn(0, 60), 1, 5);
        changesAlone("wind(0, 60)", club -> club.wind(0, 60), 0, 5, 6);
        changesAlone("listen(0, true)", club -> club.listen(0, true), 4);
        changesAlone("renew(0)", club -> club.renew(0), 3);
        changesAlone("join(50, 50)", club -> club.join(50, 50));
        changesAlone("addStation(1000, ..)", club -> club.addStation(1000, 50, 10, 0, 24, 0));
    }

    private interface Change {
        void on(CrystalClub club);
    }

    /** Of member 0 the call changes just the values with these numbers, and of member 1 none. */
    private static void changesAlone(String call, Change change, int... values) {
        CrystalClub club = withHistory();
        CrystalClub before = withHistory();
        change.on(club);
        for (int what = 0; what < 10; what++) {
            boolean isToChange = false;
            for (int value : values) {
                isToChange = isToChange || value == what;
            }
            boolean hasChanged = club.member(0, what) != before.member(0, what);
            Checks.due("whether " + call + " changes member(0, " + what + ")", hasChanged, isToChange);
            Checks.due("member(1, " + what + ") after " + call, club.member(1, what), before.member(1, what));
        }
        for (int what = 0; what < 4; what++) {
            Checks.due("log(0, 0, " + what + ") after " + call, club.log(0, 0, what), before.log(0, 0, what));
        }
        Checks.due("count(0) after " + call, club.count(0), before.count(0));
        Checks.due("station(0, 5) after " + call, club.station(0, 5), before.station(0, 5));
    }
}
