/** Promises 8 to 12: station, member, strength, hears, log. */
public final class WhatIsThereTest {
    public static void main(String[] args) {
        stationsComeAndGoByHours();
        stationsFade();
        stationsCountTheirCards();
        membersTellTheirSet();
        membersTellTheirLogAndCards();
        strengthIsCutAtEachStep();
        strengthWearsWithTheCrystal();
        strengthIsNoneOffTheAir();
        setsHearTheStrongest();
        setsHearSeveralAtOnce();
        setsHearNone();
        setsHearWithoutListening();
        logsTellTheirLines();
        Checks.end("WhatIsThereTest");
    }

    private static void stationsComeAndGoByHours() {
        CrystalClub club = new CrystalClub();
        club.addStation(1000, 10, 10, 22, 4, 0);
        club.addStation(1000, 10, 10, 5, 1, 0);
        club.addStation(1000, 10, 10, 13, 24, 0);
        club.addStation(1000, 10, 10, 0, 1, 0);
        for (int hour = 0; hour < 50; hour++) {
            int ofDay = hour % 24;
            Checks.due("over midnight in hour " + hour, club.station(0, 3), ofDay >= 22 || ofDay < 2 ? 1 : 0);
            Checks.due("one hour in hour " + hour, club.station(1, 3), ofDay == 5 ? 1 : 0);
            Checks.due("the whole day in hour " + hour, club.station(2, 3), 1);
            Checks.due("the first hour in hour " + hour, club.station(3, 3), ofDay == 0 ? 1 : 0);
            club.pass(1);
        }
    }

    private static void stationsFade() {
        CrystalClub club = new CrystalClub();
        club.addStation(1000, 10, 10, 0, 1, 0);
        club.addStation(1000, 10, 10, 0, 1, 11);
        long[] fading = {10, 9, 8, 7, 6, 5, 4, 5, 6, 7, 8, 9};
        for (int hour = 0; hour < 26; hour++) {
            Checks.due("fading of phase 0 in hour " + hour, club.station(0, 4), fading[hour % 12]);
            Checks.due("fading of phase 11 in hour " + hour, club.station(1, 4), fading[(hour + 11) % 12]);
            club.pass(1);
        }
    }

    private static void stationsCountTheirCards() {
        CrystalClub club = Clubs.hearing(20, 3);
        club.join(100, 20);
        club.join(200, 20);
        club.pass(48);
        Checks.due("station(0, 5) before a card", club.station(0, 5), 0);
        club.write(0, 0);
        club.write(0, 1);
        club.write(1, 0);
        club.pass(73);
        Checks.due("station(0, 5): a member with two confirmed lines counts once", club.station(0, 5), 2);
        Checks.due("station(1, 5)", club.station(1, 5), 0);
    }

    private static void membersTellTheirSet() {
        CrystalClub club = new CrystalClub();
        club.join(61, 33);
        club.turn(0, 79);
        long[] due = {61, 79, 33, 9, 1, 714, 60};
        for (int what = 0; what < due.length; what++) {
            Checks.due("member(0, " + what + ")", club.member(0, what), due[what]);
        }
    }

    private static void membersTellTheirLogAndCards() {
        CrystalClub club = new CrystalClub();
        club.join(100, 60);
        club.addStation(1000, 100, 7, 0, 1, 0);
        club.addStation(1000, 100, 30, 1, 1, 0);
        club.pass(26);
        Checks.due("member(0, 7)", club.member(0, 7), 4);
        club.write(0, 0);
        club.write(0, 1);
        club.write(0, 2);
        Checks.due("member(0, 8) with letters on their way", club.member(0, 8), 0);
        club.listen(0, false);
        club.pass(49);
        Checks.due("member(0, 8): two lines of one station", club.member(0, 8), 1);
        Checks.due("member(0, 9)", club.member(0, 9), 7);
        club.pass(72);
        Checks.due("member(0, 8)", club.member(0, 8), 2);
        Checks.due("member(0, 9)", club.member(0, 9), 37);
        Checks.due("member(0, 7)", club.member(0, 7), 4);
    }

    private static void strengthIsCutAtEachStep() {
        CrystalClub club = new CrystalClub();
        club.join(100, 7);
        // 13 * 10 * 7 / 30 = 30, 30 * (47 - 10) / 47 = 23
        club.addStation(1010, 13, 3, 0, 24, 0);
        club.addStation(990, 13, 3, 0, 24, 0);
        Checks.due("strength(0, 0)", club.strength(0, 0), 23);
        Checks.due("strength(0, 1)", club.strength(0, 1), 23);
        club.pass(1);
        // 13 * 9 * 7 / 30 = 27, 27 * 37 / 47 = 21, 21 * 9 / 10 = 18
        Checks.due("strength(0, 0) an hour later", club.strength(0, 0), 18);
    }

    private static void strengthWearsWithTheCrystal() {
        CrystalClub club = Clubs.hearing(59);
        for (int crystal = 9; crystal >= 0; crystal--) {
            Checks.due("member(0, 3)", club.member(0, 3), crystal);
            long full = 59L * club.station(0, 4) * 10 / 100;
            Checks.due("strength with crystal " + crystal, club.strength(0, 0), full * (1 + crystal) / 10);
            club.pass(6);
        }
    }

    private static void strengthIsNoneOffTheAir() {
        CrystalClub club = Clubs.withMember();
        club.addStation(1000, 10, 10, 1, 1, 11);
        Checks.due("strength(0, 0) before", club.strength(0, 0), 0);
        Checks.due("hears(0) before", club.hears(0), -1);
        club.pass(1);
        Checks.due("strength(0, 0)", club.strength(0, 0), 9);
        Checks.due("hears(0)", club.hears(0), 0);
        club.pass(1);
        Checks.due("strength(0, 0) after", club.strength(0, 0), 0);
        Checks.due("hears(0) after", club.hears(0), -1);
    }

    private static void setsHearTheStrongest() {
        Checks.due("one of 5", Clubs.hearing(5).hears(0), 0);
        Checks.due("half as strong", Clubs.hearing(10, 5).hears(0), 0);
        Checks.due("half as strong, the other way", Clubs.hearing(5, 10).hears(0), 1);
        Checks.due("each by itself", Clubs.hearing(5, 5, 10, 5).hears(0), 2);
        Checks.due("an odd half", Clubs.hearing(11, 5).hears(0), 0);
    }

    private static void setsHearSeveralAtOnce() {
        Checks.due("more than half as strong", Clubs.hearing(10, 6).hears(0), -2);
        Checks.due("more than an odd half", Clubs.hearing(11, 6).hears(0), -2);
        Checks.due("the last one too strong", Clubs.hearing(1, 6, 10).hears(0), -2);
        Checks.due("falling strengths", Clubs.hearing(100, 60, 20).hears(0), -2);
        Checks.due("as strong", Clubs.hearing(50, 50).hears(0), -2);
        Checks.due("two that are too weak", Clubs.hearing(4, 1).hears(0), -2);
    }

    private static void setsHearNone() {
        Checks.due("no station", Clubs.withMember().hears(0), -1);
        Checks.due("one that is too weak", Clubs.hearing(4).hears(0), -1);
        CrystalClub club = Clubs.hearing(4);
        Clubs.addPlain(club, 1046, 46);
        Checks.due("a second one with a strength of 0", club.hears(0), -1);
    }

    private static void setsHearWithoutListening() {
        CrystalClub club = Clubs.hearing(40);
        club.listen(0, false);
        Checks.due("hears(0)", club.hears(0), 0);
        Checks.due("strength(0, 0)", club.strength(0, 0), 40);
        Checks.due("pass(24)", club.pass(24), 0);
    }

    private static void logsTellTheirLines() {
        CrystalClub club = new CrystalClub();
        club.addStation(2000, 10, 10, 0, 1, 0);
        club.addStation(1000, 17, 10, 3, 1, 9);
        club.join(100, 10);
        club.join(50, 10);
        club.pass(30);
        Checks.due("log(0, 0, 0)", club.log(0, 0, 0), 3);
        Checks.due("log(0, 0, 1)", club.log(0, 0, 1), 1);
        Checks.due("log(0, 0, 2)", club.log(0, 0, 2), 15);
        Checks.due("log(0, 0, 3)", club.log(0, 0, 3), 0);
        Checks.due("log(0, 1, 0)", club.log(0, 1, 0), 27);
        Checks.due("log(1, 0, 0)", club.log(1, 0, 0), 0);
        Checks.due("log(1, 0, 1)", club.log(1, 0, 1), 0);
        Checks.due("log(1, 0, 2)", club.log(1, 0, 2), 10);
        club.write(0, 0);
        club.pass(73);
        Checks.due("log(0, 0, 3) when it is answered", club.log(0, 0, 3), 1);
        Checks.due("log(1, 0, 3)", club.log(1, 0, 3), 0);
    }
}
