/** The boundaries that promises 8 to 16 name, each with a test of its own. */
public final class EdgesOfWhatIsThereTest {
    public static void main(String[] args) {
        stationAndMember();
        strengthAndHears();
        log();
        write();
        passAndCount();
        rank();
        Sentences.end("EdgesOfWhatIsThereTest");
    }

    private static void stationAndMember() {
        Sentences.chapter("Promise 8");
        Sentences.hold("1 if it is on the air in this hour, else 0", EdgesOfWhatIsThereTest::stationsTellWhetherOnTheAir);
        Sentences.hold("members who have a card of it", EdgesOfWhatIsThereTest::stationsTellTheirCards);
        Sentences.hold("there is no such station",
            () -> Absent.stations("station", (club, number) -> club.station(number, 0)));
        Sentences.hold("what is not 0 to 5", EdgesOfWhatIsThereTest::stationNeedsAWhat);
        Sentences.chapter("Promise 9");
        Sentences.hold("1 if this one listens, else 0", EdgesOfWhatIsThereTest::membersTellWhetherTheyListen);
        Sentences.hold("lines of the log", EdgesOfWhatIsThereTest::membersTellNoLinesAndForty);
        Sentences.hold("stations of which this one has a card", EdgesOfWhatIsThereTest::membersTellNoCardsAndTwelve);
        Sentences.hold("there is no such member", () -> Absent.members("member", (club, number) -> club.member(number, 0)));
        Sentences.hold("what is not 0 to 9", EdgesOfWhatIsThereTest::memberNeedsAWhat);
    }

    private static void strengthAndHears() {
        Sentences.chapter("Promise 10");
        Sentences.hold("0 if it is not in reach", EdgesOfWhatIsThereTest::strengthIsNoneOutOfReach);
        Sentences.hold("there is no such member",
            () -> Absent.members("strength", (club, number) -> club.strength(number, 0)));
        Sentences.hold("there is no such member or station",
            () -> Absent.stations("strength", (club, number) -> club.strength(0, number)));
        Sentences.chapter("Promise 11");
        Sentences.hold("(whether this one listens or not)", EdgesOfWhatIsThereTest::setsHearWithoutListening);
        Sentences.hold("-2 if it hears several at once", EdgesOfWhatIsThereTest::setsHearSeveral);
        Sentences.hold("-1 if none", EdgesOfWhatIsThereTest::setsHearNone);
        Sentences.hold("there is no such member", () -> Absent.members("hears", CrystalClub::hears));
    }

    private static void log() {
        Sentences.chapter("Promise 12");
        Sentences.hold("a line of the log, from 0", EdgesOfWhatIsThereTest::linesAreNumberedFromNone);
        Sentences.hold("1 if it is confirmed, else 0", EdgesOfWhatIsThereTest::linesTellWhetherConfirmed);
        Sentences.hold("there is no such member", () -> Absent.members("log", (club, number) -> club.log(number, 0, 0)));
        Sentences.hold("there is no such member or line",
            () -> absentLines("log", (club, line) -> club.log(0, line, 0)));
        Sentences.hold("what is not 0 to 3", EdgesOfWhatIsThereTest::logNeedsAWhat);
    }

    private static void write() {
        Sentences.chapter("Promise 13");
        Sentences.hold("(how far it is) / 10 and 2 days of 24 hours from now", EdgesOfWhatIsThereTest::mailTakesItsDays);
        Sentences.hold("in the hour that is so many hours later", EdgesOfWhatIsThereTest::mailComesInItsHour);
        Sentences.hold("there is no such member", () -> Absent.members("write", (club, number) -> club.write(number, 0)));
        Sentences.hold("there is no such member or line",
            () -> absentLines("write", (club, line) -> club.write(0, line)));
        Sentences.hold("if it is confirmed", EdgesOfWhatIsThereTest::confirmedLinesAreRefused);
        Sentences.hold("a letter of it is on its way", EdgesOfWhatIsThereTest::aSecondLetterIsRefused);
        Sentences.hold("there are 30 letters on their way", EdgesOfWhatIsThereTest::theThirtyFirstLetterIsRefused);
    }

    private static void passAndCount() {
        Sentences.chapter("Promise 14");
        Sentences.hold("how many lines were written into logs in them", EdgesOfWhatIsThereTest::passTellsTheLinesOfItsHours);
        Sentences.hold("hours is not 1 to 240", EdgesOfWhatIsThereTest::passNeedsHours);
        Sentences.chapter("Promise 15");
        Sentences.hold("letters on their way", EdgesOfWhatIsThereTest::countTellsNoLettersAndThirty);
        Sentences.hold("what is not 0 to 7", EdgesOfWhatIsThereTest::countNeedsAWhat);
    }

    private static void rank() {
        Sentences.chapter("Promise 16");
        Sentences.hold("with a greater score", EdgesOfWhatIsThereTest::ranksAreByScore);
        Sentences.hold("with the same one and more lines", EdgesOfWhatIsThereTest::ranksAreByLines);
        Sentences.hold("with the same of both and a smaller number", EdgesOfWhatIsThereTest::ranksAreByNumber);
        Sentences.hold("there is no such place", () -> Absent.members("rank", CrystalClub::rank));
    }

    private static void stationsTellWhetherOnTheAir() {
        CrystalClub club = new CrystalClub();
        club.addStation(1000, 50, 10, 23, 2, 0);
        club.addStation(1000, 50, 10, 1, 1, 0);
        int[] over = {1, 0, 0};
        int[] one = {0, 1, 0};
        for (int hour = 0; hour < 3; hour++) {
            Checks.due("station(0, 3) in hour " + hour, club.station(0, 3), over[hour]);
            Checks.due("station(1, 3) in hour " + hour, club.station(1, 3), one[hour]);
            Checks.due("count(2) in hour " + hour, club.count(2), over[hour] + one[hour]);
            club.pass(1);
        }
        club.pass(19);
        Checks.due("station(0, 3) in hour 22", club.station(0, 3), 0);
        club.pass(1);
        Checks.due("station(0, 3) in hour 23", club.station(0, 3), 1);
    }

    /** None has a card, then all that can be there have one. */
    private static void stationsTellTheirCards() {
        CrystalClub club = Clubs.withLines(8, 1);
        Checks.due("station(0, 5) of none", club.station(0, 5), 0);
        for (int member = 0; member < 8; member++) {
            club.write(member, 0);
        }
        Checks.due("station(0, 5) with letters on their way", club.station(0, 5), 0);
        club.pass(169);
        Checks.due("station(0, 5) of all", club.station(0, 5), 8);
    }

    private static void stationNeedsAWhat() {
        CrystalClub club = Clubs.of(8, 12);
        for (int station : new int[] {0, 11}) {
            Checks.due("station(" + station + ", 0)", club.station(station, 0), 1000 + 150 * station);
            Checks.due("station(" + station + ", 5)", club.station(station, 5), 0);
            for (int wrong : Checks.beyond(0, 5)) {
                Checks.refusesIndex(club, "station(" + station + ", " + wrong + ")", () -> club.station(station, wrong));
            }
        }
    }

    private static void membersTellWhetherTheyListen() {
        CrystalClub club = Clubs.of(2, 0);
        Checks.due("member(1, 4) at first", club.member(1, 4), 1);
        club.listen(1, false);
        Checks.due("member(1, 4)", club.member(1, 4), 0);
        Checks.due("member(0, 4)", club.member(0, 4), 1);
        club.listen(1, true);
        Checks.due("member(1, 4) again", club.member(1, 4), 1);
    }

    private static void membersTellNoLinesAndForty() {
        CrystalClub club = Clubs.withLines(2, 0);
        club.listen(1, false);
        for (int day = 0; day < 41; day++) {
            Checks.due("member(0, 7) on day " + day, club.member(0, 7), day);
            Checks.due("member(1, 7) on day " + day, club.member(1, 7), 0);
            club.pass(24);
        }
        Checks.due("member(0, 7) of a full log", club.member(0, 7), 40);
    }

    /** Twelve stations follow one another round the day: 1, 2, .. 12 far, which is 78 in all. */
    private static void membersTellNoCardsAndTwelve() {
        CrystalClub club = Clubs.withMember();
        for (int i = 0; i < 12; i++) {
            club.addStation(Clubs.TUNED, 100, 1 + i, 2 * i, 2, 0);
        }
        Checks.due("pass(24)", club.pass(24), 12);
        Checks.due("member(0, 8) of none", club.member(0, 8), 0);
        Checks.due("member(0, 9) of none", club.member(0, 9), 0);
        for (int line = 0; line < 12; line++) {
            club.write(0, line);
        }
        club.listen(0, false);
        club.pass(49);
        Checks.due("member(0, 8) without those that are 10 far and more", club.member(0, 8), 9);
        Checks.due("member(0, 9) without those that are 10 far and more", club.member(0, 9), 45);
        club.pass(24);
        Checks.due("member(0, 8) of all", club.member(0, 8), 12);
        Checks.due("member(0, 9) of all", club.member(0, 9), 78);
    }

    private static void memberNeedsAWhat() {
        CrystalClub club = Clubs.of(8, 12);
        for (int member : new int[] {0, 7}) {
            Checks.due("member(" + member + ", 0)", club.member(member, 0), 100);
            Checks.due("member(" + member + ", 9)", club.member(member, 9), 0);
            for (int wrong : Checks.beyond(0, 9)) {
                Checks.refusesIndex(club, "member(" + member + ", " + wrong + ")", () -> club.member(member, wrong));
            }
        }
    }

    private static void strengthIsNoneOutOfReach() {
        CrystalClub club = Clubs.withMember();
        club.addStation(1047, 100, 1, 0, 24, 0);
        club.addStation(953, 100, 1, 0, 24, 0);
        club.addStation(1000, 100, 1, 1, 23, 0);
        club.addStation(1000, 4, 50, 0, 24, 0);
        club.addStation(3000, 100, 1, 0, 24, 0);
        club.addStation(300, 100, 1, 0, 24, 0);
        String[] why = {"as far above as the width", "as far below", "off the air", "cut to nothing", "far above",
            "far below"};
        for (int station = 0; station < why.length; station++) {
            Checks.due("strength(0, " + station + "), " + why[station], club.strength(0, station), 0);
        }
        club.pass(1);
        Checks.due("strength(0, 2) on the air", club.strength(0, 2), 810);
    }

    private static void setsHearWithoutListening() {
        CrystalClub one = Clubs.hearing(5);
        one.listen(0, false);
        Checks.due("hears(0) of one", one.hears(0), 0);
        CrystalClub several = Clubs.hearing(5, 5);
        several.listen(0, false);
        Checks.due("hears(0) of several", several.hears(0), -2);
    }

    private static void setsHearSeveral() {
        Checks.due("hears(0) of two just too much alike", Clubs.hearing(9, 5).hears(0), -2);
        Checks.due("hears(0) of two far enough apart", Clubs.hearing(9, 4).hears(0), 0);
        Checks.due("hears(0) of twelve as strong", Clubs.hearing(9, 9, 9, 9, 9, 9, 9, 9, 9, 9, 9, 9).hears(0), -2);
        Checks.due("hears(0) of two of 1", Clubs.hearing(1, 1).hears(0), -2);
    }

    private static void setsHearNone() {
        Checks.due("hears(0) without stations", Clubs.withMember().hears(0), -1);
        Checks.due("hears(0) of one of 4", Clubs.hearing(4).hears(0), -1);
        CrystalClub club = Clubs.withMember();
        club.addStation(1047, 100, 1, 0, 24, 0);
        club.addStation(1000, 100, 1, 1, 23, 0);
        Checks.due("hears(0) of one out of tune and one off the air", club.hears(0), -1);
    }

    private static void linesAreNumberedFromNone() {
        CrystalClub club = Clubs.withLines(2, 3);
        for (int line = 0; line < 3; line++) {
            Checks.due("log(1, " + line + ", 0)", club.log(1, line, 0), 24 * line);
        }
    }

    private static void linesTellWhetherConfirmed() {
        CrystalClub club = Clubs.withLines(2, 2);
        club.write(1, 1);
        Checks.due("log(1, 1, 3) with its letter on its way", club.log(1, 1, 3), 0);
        club.pass(169);
        Checks.due("log(1, 1, 3) answered", club.log(1, 1, 3), 1);
        Checks.due("log(1, 0, 3)", club.log(1, 0, 3), 0);
        Checks.due("log(0, 1, 3)", club.log(0, 1, 3), 0);
    }

    /** Lines that are not there: in an empty log, in one with lines while another has more, and in a full one. */
    private static void absentLines(String name, Absent.Call call) {
        for (int days : new int[] {0, 1, 3, 40}) {
            CrystalClub club = Clubs.withLines(2, 0);
            club.listen(0, false);
            club.pass(48);
            club.listen(0, true);
            for (int day = 0; day < days; day++) {
                club.pass(24);
            }
            Checks.due("member(0, 7)", club.member(0, 7), days);
            for (int line : Checks.beyond(0, days - 1)) {
                Checks.refusesIndex(club, name + " of line " + line + " of " + days, () -> call.on(club, line));
            }
            if (days > 0) {
                Checks.takes(name + " of the first line of " + days, () -> call.on(club, 0));
            }
            if (days > 1) {
                Checks.takes(name + " of the last line of " + days, () -> call.on(club, days - 1));
            }
        }
    }

    private static void logNeedsAWhat() {
        CrystalClub club = Clubs.withLines(1, 2);
        for (int line = 0; line < 2; line++) {
            int which = line;
            Checks.due("log(0, " + line + ", 0)", club.log(0, line, 0), 24 * line);
            Checks.due("log(0, " + line + ", 3)", club.log(0, line, 3), 0);
            for (int wrong : Checks.beyond(0, 3)) {
                Checks.refusesIndex(club, "log(0, " + line + ", " + wrong + ")", () -> club.log(0, which, wrong));
            }
        }
    }

    private static void mailTakesItsDays() {
        for (int far = 1; far <= 50; far++) {
            CrystalClub club = Clubs.withLine(100, far);
            int due = 1 + (far / 10 + 2) * 24;
            Checks.due("write(0, 0) to " + far + " in hour 1", club.write(0, 0), due);
        }
    }

    private static void mailComesInItsHour() {
        CrystalClub club = Clubs.withLines(2, 2);
        Checks.due("write(0, 0) in hour 48", club.write(0, 0), 48 + 168);
        club.pass(1);
        Checks.due("write(1, 0) in hour 49", club.write(1, 0), 49 + 168);
        club.pass(167);
        Checks.due("count(6) in the hour of the first", club.count(6), 0);
        club.pass(1);
        Checks.due("count(6) after it", club.count(6), 1);
        Checks.due("log(0, 0, 3)", club.log(0, 0, 3), 1);
        club.pass(1);
        Checks.due("count(6) after the hour of the second", club.count(6), 2);
        Checks.due("count(7)", club.count(7), 0);
    }

    private static void confirmedLinesAreRefused() {
        CrystalClub club = Clubs.withLine(8, 10);
        club.write(0, 0);
        club.pass(73);
        Checks.refusesState(club, "write(0, 0) of a confirmed line", () -> club.write(0, 0));
        CrystalClub weak = Clubs.withLine(7, 10);
        weak.write(0, 0);
        weak.pass(73);
        Checks.due("write(0, 0) of a line that was answered but not confirmed", weak.write(0, 0), 74 + 72);
    }

    private static void aSecondLetterIsRefused() {
        CrystalClub club = Clubs.withLines(2, 2);
        club.write(0, 0);
        club.write(1, 1);
        Checks.refusesState(club, "write(0, 0) again", () -> club.write(0, 0));
        Checks.refusesState(club, "write(1, 1) again", () -> club.write(1, 1));
        Checks.due("write(0, 1)", club.write(0, 1), 48 + 168);
        Checks.due("write(1, 0)", club.write(1, 0), 48 + 168);
        club.pass(168);
        Checks.refusesState(club, "write(0, 0) in the hour of its answer", () -> club.write(0, 0));
        Checks.due("count(7)", club.count(7), 4);
    }

    private static void theThirtyFirstLetterIsRefused() {
        CrystalClub club = Clubs.withLines(8, 4);
        for (int letter = 0; letter < 29; letter++) {
            club.write(letter / 4, letter % 4);
        }
        club.pass(1);
        Checks.due("the 30th letter, an hour later", club.write(7, 1), 97 + 168);
        Checks.refusesState(club, "the 31st letter", () -> club.write(7, 2));
        club.pass(168);
        Checks.due("count(7) after 29 answers", club.count(7), 1);
        Checks.due("count(6) after 29 answers", club.count(6), 29);
        Checks.due("a letter when there is room", club.write(7, 2), 265 + 168);
    }

    private static void passTellsTheLinesOfItsHours() {
        CrystalClub club = Clubs.of(8, 1);
        Checks.due("pass(1), each writes one", club.pass(1), 8);
        Checks.due("pass(23), all have one of the day", club.pass(23), 0);
        for (int member = 0; member < 8; member++) {
            club.listen(member, false);
        }
        Checks.due("pass(240), none listens", club.pass(240), 0);
        Checks.due("pass(240) without members", Clubs.of(0, 12).pass(240), 0);
        Checks.due("pass(240) without stations", Clubs.of(8, 0).pass(240), 0);
    }

    private static void passNeedsHours() {
        CrystalClub club = Clubs.of(8, 1);
        for (int wrong : Checks.beyond(1, 240)) {
            Checks.refusesArgument(club, "pass(" + wrong + ")", () -> club.pass(wrong));
        }
        Checks.due("count(0)", club.count(0), 0);
        club.pass(1);
        Checks.due("count(0) after pass(1)", club.count(0), 1);
        club.pass(240);
        Checks.due("count(0) after pass(240)", club.count(0), 241);
    }

    private static void countTellsNoLettersAndThirty() {
        CrystalClub club = Clubs.withLines(8, 4);
        for (int letter = 0; letter < 30; letter++) {
            Checks.due("count(7)", club.count(7), letter);
            club.write(letter / 4, letter % 4);
        }
        Checks.due("count(7) of all that can be", club.count(7), 30);
        club.pass(168);
        Checks.due("count(7) in the hour of the answers", club.count(7), 30);
        club.pass(1);
        Checks.due("count(7) after it", club.count(7), 0);
        Checks.due("count(6) after it", club.count(6), 30);
    }

    private static void countNeedsAWhat() {
        CrystalClub club = Clubs.of(8, 12);
        for (CrystalClub one : new CrystalClub[] {new CrystalClub(), club}) {
            Checks.due("count(0)", one.count(0), 0);
            Checks.due("count(7)", one.count(7), 0);
            for (int wrong : Checks.beyond(0, 7)) {
                Checks.refusesIndex(one, "count(" + wrong + ")", () -> one.count(wrong));
            }
        }
    }

    /** Member 1 hears a station 2 far, member 0 more lines of one that is 1 far. */
    private static void ranksAreByScore() {
        CrystalClub club = new CrystalClub();
        club.addStation(1000, 100, 1, 0, 24, 0);
        club.addStation(500, 100, 2, 0, 24, 0);
        club.join(100, 60);
        club.join(200, 60);
        club.pass(24);
        club.listen(1, false);
        club.pass(24);
        Checks.due("rank(0) by lines", club.rank(0), 0);
        club.write(0, 0);
        club.write(0, 1);
        club.write(1, 0);
        club.listen(0, false);
        club.pass(49);
        Checks.due("member(0, 9), two lines of one station", club.member(0, 9), 1);
        Checks.due("member(1, 9)", club.member(1, 9), 2);
        Checks.due("rank(0) by score", club.rank(0), 1);
        Checks.due("rank(1) by score", club.rank(1), 0);
    }

    private static void ranksAreByLines() {
        CrystalClub club = Clubs.withLines(8, 1);
        for (int member = 0; member < 8; member++) {
            club.write(member, 0);
        }
        for (int member = 0; member < 7; member++) {
            club.listen(member, false);
        }
        club.pass(169);
        Checks.due("member(0, 9)", club.member(0, 9), 50);
        Checks.due("member(7, 9)", club.member(7, 9), 50);
        Checks.due("rank(0), who has more lines", club.rank(0), 7);
        for (int place = 1; place < 8; place++) {
            Checks.due("rank(" + place + ")", club.rank(place), place - 1);
        }
    }

    private static void ranksAreByNumber() {
        for (int days = 0; days < 2; days++) {
            CrystalClub club = Clubs.withLines(8, days);
            for (int place = 0; place < 8; place++) {
                Checks.due("rank(" + place + ") with " + days + " lines each", club.rank(place), place);
            }
        }
    }
}
