/** Promise 13: write, and the mail of an hour. */
public final class LettersTest {
    public static void main(String[] args) {
        lettersTakeTheirDays();
        lettersAreAnsweredInTheirHour();
        lettersLeftKeepTheirOrder();
        weakLinesStayAsTheyAre();
        Checks.end("LettersTest");
    }

    private static void lettersTakeTheirDays() {
        int[] far = {1, 9, 10, 19, 20, 49, 50};
        int[] days = {2, 2, 3, 3, 4, 6, 7};
        for (int i = 0; i < far.length; i++) {
            CrystalClub club = Clubs.withLine(100, far[i]);
            Checks.due("write(0, 0) to " + far[i], club.write(0, 0), 1 + 24L * days[i]);
            Checks.due("count(7)", club.count(7), 1);
        }
    }

    private static void lettersAreAnsweredInTheirHour() {
        CrystalClub club = Clubs.withLine(100, 10);
        Checks.due("write(0, 0)", club.write(0, 0), 73);
        club.pass(72);
        Checks.due("count(0)", club.count(0), 73);
        Checks.due("log(0, 0, 3) before that hour has gone by", club.log(0, 0, 3), 0);
        Checks.due("count(7) before that hour has gone by", club.count(7), 1);
        club.pass(1);
        Checks.due("log(0, 0, 3)", club.log(0, 0, 3), 1);
        Checks.due("count(7)", club.count(7), 0);
        Checks.due("count(6)", club.count(6), 1);
    }

    private static void lettersLeftKeepTheirOrder() {
        CrystalClub club = new CrystalClub();
        club.addStation(1000, 100, 1, 0, 24, 0);
        club.addStation(500, 100, 30, 0, 24, 0);
        club.join(100, 60);
        club.join(200, 60);
        club.pass(48);
        club.listen(0, false);
        club.listen(1, false);
        club.write(0, 0);
        Checks.due("write(1, 1)", club.write(1, 1), 48 + 120);
        club.write(0, 1);
        Checks.due("write(1, 0)", club.write(1, 0), 48 + 120);
        Checks.due("foresee(49, 1)", club.foresee(49, 1), 2);
        club.pass(49);
        Checks.due("count(7)", club.count(7), 2);
        Checks.due("log(0, 0, 3)", club.log(0, 0, 3), 1);
        Checks.due("log(0, 1, 3)", club.log(0, 1, 3), 1);
        Checks.due("log(1, 0, 3)", club.log(1, 0, 3), 0);
        Checks.refusesState(club, "write(1, 0) again", () -> club.write(1, 0));
        Checks.refusesState(club, "write(1, 1) again", () -> club.write(1, 1));
        Checks.due("foresee(72, 1)", club.foresee(72, 1), 2);
        club.pass(72);
        Checks.due("log(1, 0, 3)", club.log(1, 0, 3), 1);
        Checks.due("log(1, 1, 3)", club.log(1, 1, 3), 1);
        Checks.due("count(7)", club.count(7), 0);
    }

    private static void weakLinesStayAsTheyAre() {
        CrystalClub strong = Clubs.withLine(8, 10);
        strong.write(0, 0);
        strong.pass(73);
        Checks.due("a line of 8", strong.log(0, 0, 3), 1);
        CrystalClub weak = Clubs.withLine(7, 10);
        weak.write(0, 0);
        weak.pass(73);
        Checks.due("log(0, 0, 2)", weak.log(0, 0, 2), 7);
        Checks.due("a line of 7", weak.log(0, 0, 3), 0);
        Checks.due("its letters", weak.count(7), 0);
        Checks.due("another letter of it", weak.write(0, 0), 74 + 72);
        Checks.due("its letters", weak.count(7), 1);
    }
}
