/** Clubs whose strengths can be read off: with an aerial of 10 and a station 10 far. */
final class Clubs {
    /** A set of 100 turns with the dial at 0 is tuned to this, and 47 wide. */
    static final int TUNED = 1000;

    private Clubs() {
    }

    static CrystalClub withMember() {
        CrystalClub club = new CrystalClub();
        club.join(100, 10);
        return club;
    }

    /** At hour 0 and with a new crystal this station is as strong as its power. */
    static int addPlain(CrystalClub club, int frequency, int power) {
        return club.addStation(frequency, power, 10, 0, 24, 0);
    }

    static CrystalClub hearing(int... powers) {
        CrystalClub club = withMember();
        for (int power : powers) {
            addPlain(club, TUNED, power);
        }
        return club;
    }

    /** Member 0 has one line, of hour 0, of a station this far, with this strength (power times 10 / far). */
    static CrystalClub withLine(int power, int far) {
        CrystalClub club = withMember();
        club.addStation(TUNED, power, far, 0, 24, 0);
        club.pass(1);
        club.listen(0, false);
        return club;
    }

    /** Each member hears station 0, which is as strong as its power, and no other one. */
    static CrystalClub of(int members, int stations) {
        CrystalClub club = new CrystalClub();
        for (int i = 0; i < stations; i++) {
            addPlain(club, TUNED + 150 * i, 50);
        }
        for (int i = 0; i < members; i++) {
            club.join(100, 10);
        }
        return club;
    }

    /** Members with a line for each of the days, all of one station that is 50 far, and no letter. */
    static CrystalClub withLines(int members, int days) {
        CrystalClub club = new CrystalClub();
        club.addStation(TUNED, 100, 50, 0, 24, 0);
        for (int i = 0; i < members; i++) {
            club.join(100, 60);
        }
        if (days > 0) {
            club.pass(24 * days);
        }
        return club;
    }

    /** No room for a station, a member or a letter; there are lines without a letter, as the last two of member 7. */
    static CrystalClub full() {
        CrystalClub club = withLines(8, 4);
        for (int i = 0; i < 11; i++) {
            addPlain(club, 640, 50);
        }
        for (int letter = 0; letter < 30; letter++) {
            club.write(letter / 4, letter % 4);
        }
        return club;
    }
}
