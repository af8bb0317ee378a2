/** Clubs whose strengths can be read off: with an aerial of 10 and a station 10 far. */
final class Clubs {
    /** A set of 100 turns with the dial at 0 is tuned to this, and 47 wide. */
    static final int TUNED = 1000;

    private Clubs() {
    }

    static CrystalClub withMember() {
        CrystalClub club = new CrystalClub();
        club.join(100, 10);
        return club;
    }

    /** At hour 0 and with a new crystal this station is as strong as its power. */
    static int addPlain(CrystalClub club, int frequency, int power) {
        return club.addStation(frequency, power, 10, 0, 24, 0);
    }

    static CrystalClub hearing(int... powers) {
        CrystalClub club = withMember();
        for (int power : powers) {
            addPlain(club, TUNED, power);
        }
        return club;
    }

    /** Member 0 has one line, of hour 0, of a station this far, with this strength (power times 10 / far). */
    static CrystalClub withLine(int power, int far) {
        CrystalClub club = withMember();
        club.addStation(TUNED, power, far, 0, 24, 0);
        club.pass(1);
        club.listen(0, false);
        return club;
    }
}
