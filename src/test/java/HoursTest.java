/** Promises 14 to 16: pass, count, rank, and the steps of an hour. */
public final class HoursTest {
    public static void main(String[] args) {
        aStationIsLoggedOnceADay();
        twoStationsOfADayAreLogged();
        onlyListenersWrite();
        severalAtOnceAreNotLogged();
        crystalsWearEverySixHours();
        linesAreWrittenBeforeTheCrystalWears();
        countTellsAll();
        ranksAreByScore();
        ranksAreByLinesAndNumbers();
        Checks.end("HoursTest");
    }

    private static void aStationIsLoggedOnceADay() {
        CrystalClub club = Clubs.withMember();
        club.addStation(1000, 100, 1, 0, 24, 0);
        Checks.due("pass(1)", club.pass(1), 1);
        Checks.due("pass(23)", club.pass(23), 0);
        Checks.due("pass(1)", club.pass(1), 1);
        Checks.due("pass(47)", club.pass(47), 1);
        Checks.due("log(0, 1, 0)", club.log(0, 1, 0), 24);
        Checks.due("log(0, 2, 0)", club.log(0, 2, 0), 48);
        Checks.due("count(0)", club.count(0), 72);
    }

    private static void twoStationsOfADayAreLogged() {
        CrystalClub club = new CrystalClub();
        club.addStation(1000, 100, 1, 0, 12, 0);
        club.addStation(1000, 100, 1, 12, 12, 0);
        club.join(100, 60);
        club.join(100, 60);
        Checks.due("pass(24)", club.pass(24), 4);
        Checks.due("log(0, 1, 0)", club.log(0, 1, 0), 12);
        Checks.due("log(0, 1, 1)", club.log(0, 1, 1), 1);
        Checks.due("log(1, 0, 1)", club.log(1, 0, 1), 0);
        Checks.due("count(5)", club.count(5), 4);
    }

    private static void onlyListenersWrite() {
        CrystalClub club = Clubs.hearing(100);
        club.join(100, 10);
        club.listen(0, false);
        Checks.due("pass(12)", club.pass(12), 1);
        Checks.due("member(0, 7)", club.member(0, 7), 0);
        Checks.due("member(1, 7)", club.member(1, 7), 1);
        club.listen(0, true);
        Checks.due("pass(1)", club.pass(1), 1);
        Checks.due("log(0, 0, 0)", club.log(0, 0, 0), 12);
    }

    private static void severalAtOnceAreNotLogged() {
        CrystalClub club = Clubs.hearing(100, 60);
        Checks.due("pass(24)", club.pass(24), 0);
        Checks.due("count(5)", club.count(5), 0);
        CrystalClub weak = Clubs.hearing(4);
        Checks.due("pass(24) of none", weak.pass(24), 0);
    }

    private static void crystalsWearEverySixHours() {
        CrystalClub club = Clubs.withMember();
        club.join(100, 10);
        club.listen(1, false);
        club.pass(1);
        Checks.due("after hour 0", club.member(0, 3), 8);
        club.pass(5);
        Checks.due("after hour 5", club.member(0, 3), 8);
        club.pass(1);
        Checks.due("after hour 6", club.member(0, 3), 7);
        Checks.due("of one who does not listen", club.member(1, 3), 9);
        club.pass(41);
        Checks.due("after hour 47", club.member(0, 3), 1);
        club.pass(1);
        Checks.due("after hour 48", club.member(0, 3), 0);
        club.pass(100);
        Checks.due("never below 0", club.member(0, 3), 0);
        Checks.due("of one who does not listen", club.member(1, 3), 9);
    }

    private static void linesAreWrittenBeforeTheCrystalWears() {
        CrystalClub club = Clubs.hearing(50);
        club.pass(1);
        Checks.due("log(0, 0, 2)", club.log(0, 0, 2), 50);
        Checks.due("strength(0, 0)", club.strength(0, 0), 40);
    }

    private static void countTellsAll() {
        CrystalClub club = new CrystalClub();
        club.addStation(1000, 100, 1, 0, 24, 0);
        club.addStation(2000, 100, 1, 3, 2, 0);
        club.addStation(500, 100, 10, 2, 4, 0);
        club.join(100, 60);
        club.join(200, 60);
        club.listen(1, false);
        Checks.due("count(2) in hour 0", club.count(2), 1);
        club.pass(3);
        Checks.due("count(2) in hour 3", club.count(2), 3);
        club.listen(1, true);
        club.pass(24);
        club.write(0, 0);
        club.write(1, 0);
        club.pass(49);
        long[] due = {76, 3, 3, 2, 2, 8, 1, 1};
        for (int what = 0; what < due.length; what++) {
            Checks.due("count(" + what + ")", club.count(what), due[what]);
        }
    }

    private static void ranksAreByScore() {
        CrystalClub club = new CrystalClub();
        club.addStation(1000, 100, 4, 0, 24, 0);
        club.addStation(500, 100, 9, 0, 24, 0);
        club.join(100, 60);
        club.join(100, 60);
        club.join(200, 60);
        club.pass(24);
        club.listen(2, false);
        club.pass(24);
        club.write(1, 0);
        club.write(1, 1);
        club.write(2, 0);
        club.listen(0, false);
        club.listen(1, false);
        club.pass(49);
        long[] scores = {0, 4, 9};
        long[] places = {2, 1, 0};
        for (int i = 0; i < 3; i++) {
            Checks.due("member(" + i + ", 9)", club.member(i, 9), scores[i]);
            Checks.due("rank(" + i + ")", club.rank(i), places[i]);
        }
    }

    private static void ranksAreByLinesAndNumbers() {
        CrystalClub club = new CrystalClub();
        club.addStation(1000, 100, 4, 0, 24, 0);
        club.join(50, 60);
        club.join(100, 60);
        club.join(50, 60);
        club.join(100, 60);
        club.pass(1);
        long[] places = {1, 3, 0, 2};
        for (int i = 0; i < 4; i++) {
            Checks.due("rank(" + i + ")", club.rank(i), places[i]);
        }
    }
}
