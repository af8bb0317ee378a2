/** The boundaries that promises 17 to 22 name, each with a test of its own. */
public final class EdgesOfWhatWouldBeTest {
    public static void main(String[] args) {
        dial();
        next();
        apart();
        foresee();
        meanAndDigest();
        Sentences.end("EdgesOfWhatWouldBeTest");
    }

    private static void dial() {
        Sentences.chapter("Promise 17");
        Sentences.hold("where the dial has to stand", EdgesOfWhatWouldBeTest::dialGoesFromEndToEnd);
        Sentences.hold("so that the set hears the station in this hour the strongest",
            EdgesOfWhatWouldBeTest::dialIsWhereTheStationIsHeard);
        Sentences.hold("of several the smallest number", EdgesOfWhatWouldBeTest::dialIsTheSmallestOfSeveral);
        Sentences.hold("-1 if there is no such place", EdgesOfWhatWouldBeTest::dialHasNoPlace);
        Sentences.hold("(nothing is changed)",
            () -> changesNothing("dial", club -> club.dial(0, 0), club -> club.dial(7, 11)));
        Sentences.hold("there is no such member", () -> Absent.members("dial", (club, number) -> club.dial(number, 0)));
        Sentences.hold("there is no such member or station",
            () -> Absent.stations("dial", (club, number) -> club.dial(0, number)));
    }

    private static void next() {
        Sentences.chapter("Promise 18");
        Sentences.hold("(with the crystal as it is now)", EdgesOfWhatWouldBeTest::nextKeepsTheCrystal);
        Sentences.hold("0 if it does now", EdgesOfWhatWouldBeTest::nextIsNow);
        Sentences.hold("at most 96", EdgesOfWhatWouldBeTest::nextGoesRoundTheDay);
        Sentences.hold("-1 if not by then", EdgesOfWhatWouldBeTest::nextNeverComes);
        Sentences.hold("there is no such member", () -> Absent.members("next", (club, number) -> club.next(number, 0)));
        Sentences.hold("there is no such member or station",
            () -> Absent.stations("next", (club, number) -> club.next(0, number)));
    }

    private static void apart() {
        Sentences.chapter("Promise 19");
        Sentences.hold("the fewest turns, 20 to 200", EdgesOfWhatWouldBeTest::apartGoesFromTwentyToTwoHundred);
        Sentences.hold("there is a place of the dial where the set would hear the one",
            EdgesOfWhatWouldBeTest::apartUsesTheWholeDial);
        Sentences.hold("in this hour", EdgesOfWhatWouldBeTest::apartFadesWithTheHour);
        Sentences.hold("as if these two alone and just both were on the air",
            EdgesOfWhatWouldBeTest::apartTakesJustBothAsOnTheAir);
        Sentences.hold("(nothing is changed)",
            () -> changesNothing("apart", club -> club.apart(0, 0, 11), club -> club.apart(7, 11, 10)));
        Sentences.hold("-1 if there are none", EdgesOfWhatWouldBeTest::apartFindsNone);
        Sentences.hold("there is no such member", () -> Absent.members("apart", (club, number) -> club.apart(number, 0, 5)));
        Sentences.hold("there is no such member or station", EdgesOfWhatWouldBeTest::apartNeedsStations);
        Sentences.hold("both are the same", EdgesOfWhatWouldBeTest::apartNeedsTwoStations);
    }

    private static void foresee() {
        Sentences.chapter("Promise 20");
        Sentences.hold("how many, 1 to 240", EdgesOfWhatWouldBeTest::foreseeTellsWhatPassDoes);
        Sentences.hold("0 lines that are written in them", EdgesOfWhatWouldBeTest::foreseeEndsWhereLogsAreFull);
        Sentences.hold("1 lines that are confirmed in them", EdgesOfWhatWouldBeTest::foreseeTellsConfirmedLines);
        Sentences.hold("if nothing is done (nothing is changed)",
            () -> changesNothing("foresee", club -> club.foresee(240, 0), club -> club.foresee(240, 1)));
        Sentences.hold("hours is not 1 to 240", EdgesOfWhatWouldBeTest::foreseeNeedsHours);
        Sentences.hold("what is not 0 to 1", EdgesOfWhatWouldBeTest::foreseeNeedsAWhat);
    }

    private static void meanAndDigest() {
        Sentences.chapter("Promise 21");
        Sentences.hold("the mean strength of all lines of all logs", EdgesOfWhatWouldBeTest::meanIsNotCut);
        Sentences.hold("0 if there are none", EdgesOfWhatWouldBeTest::meanOfNoLines);
        Sentences.chapter("Promise 22");
        Sentences.hold("A number d starts with 701", EdgesOfWhatWouldBeTest::digestOfAnEmptyClub);
        Sentences.hold("wraps around as a 64-bit integer", EdgesOfWhatWouldBeTest::digestWrapsAround);
        Sentences.hold("of each letter on its way, in the order in which they were written",
            EdgesOfWhatWouldBeTest::digestKeepsTheOrderOfLetters);
    }

    private static void dialGoesFromEndToEnd() {
        CrystalClub club = Clubs.withMember();
        Clubs.addPlain(club, 1010, 100);
        Clubs.addPlain(club, 497, 100);
        Checks.due("dial(0, 0), which is nearest to -1", club.dial(0, 0), 0);
        Checks.due("dial(0, 1), which is nearest to 101", club.dial(0, 1), 100);
        // 46 from 1000, which is the last place above, and 43 from 500, the last one below.
        CrystalClub ends = Clubs.withMember();
        ends.addStation(1046, 100, 1, 0, 24, 0);
        ends.addStation(457, 100, 1, 0, 24, 0);
        Checks.due("dial(0, 0), in reach at 0 alone", ends.dial(0, 0), 0);
        Checks.due("dial(0, 1), in reach near 100 alone", ends.dial(0, 1), 100);
    }

    /** Where the station is the strongest, the set hears another one, and on the way from there several at once. */
    private static void dialIsWhereTheStationIsHeard() {
        CrystalClub club = new CrystalClub();
        club.addStation(1000, 60, 5, 0, 24, 0);
        club.addStation(1030, 50, 30, 0, 24, 3);
        club.join(80, 20);
        club.turn(0, 17);
        Checks.due("hears(0) at 17, which is tuned to 1030", club.hears(0), 0);
        Checks.due("dial(0, 1)", club.dial(0, 1), 14);
        club.turn(0, 15);
        Checks.due("hears(0) at 15", club.hears(0), -2);
        club.turn(0, 14);
        Checks.due("hears(0) at 14", club.hears(0), 1);
    }

    private static void dialIsTheSmallestOfSeveral() {
        CrystalClub club = new CrystalClub();
        club.join(150, 10);
        // 100000 / 199 = 502 and 100000 / 200 = 500 are both 1 from it.
        Clubs.addPlain(club, 501, 100);
        int place = club.dial(0, 0);
        Checks.due("dial(0, 0)", place, 49);
        club.turn(0, place);
        int strength = club.strength(0, 0);
        club.turn(0, place + 1);
        Checks.due("strength(0, 0) one place on", club.strength(0, 0), strength);
    }

    private static void dialHasNoPlace() {
        CrystalClub club = Clubs.hearing(50, 30);
        Checks.due("dial(0, 0) beside one at the same frequency", club.dial(0, 0), -1);
        Checks.due("dial(0, 1) beside one at the same frequency", club.dial(0, 1), -1);
        CrystalClub half = Clubs.hearing(50, 25);
        Checks.due("dial(0, 0) beside one half as strong", half.dial(0, 0), 0);
        Checks.due("dial(0, 1) beside one twice as strong", half.dial(0, 1), -1);
        Checks.due("dial(0, 0) of 5", Clubs.hearing(5).dial(0, 0), 0);
        Checks.due("dial(0, 0) of 4", Clubs.hearing(4).dial(0, 0), -1);
        CrystalClub away = Clubs.withMember();
        away.addStation(1000, 100, 1, 1, 23, 0);
        away.addStation(3000, 100, 1, 0, 24, 0);
        away.addStation(300, 100, 1, 0, 24, 0);
        Checks.due("dial(0, 0) off the air", away.dial(0, 0), -1);
        Checks.due("dial(0, 1) above all places", away.dial(0, 1), -1);
        Checks.due("dial(0, 2) below all places", away.dial(0, 2), -1);
    }

    /** After hour 0 the crystal is 8, which cuts 5 to 4; in hour 12 it would be 6. */
    private static void nextKeepsTheCrystal() {
        CrystalClub club = Clubs.withMember();
        club.addStation(Clubs.TUNED, 5, 10, 12, 1, 0);
        Checks.due("next(0, 0) with a new crystal", club.next(0, 0), 12);
        club.pass(1);
        Checks.due("next(0, 0) with the crystal at 8", club.next(0, 0), -1);
        club.renew(0);
        Checks.due("next(0, 0) with a new crystal again", club.next(0, 0), 11);
    }

    private static void nextIsNow() {
        CrystalClub club = Clubs.hearing(5);
        Checks.due("next(0, 0) of what it hears", club.next(0, 0), 0);
        club.listen(0, false);
        Checks.due("next(0, 0) of one who does not listen", club.next(0, 0), 0);
        CrystalClub several = Clubs.withMember();
        several.addStation(Clubs.TUNED, 50, 10, 0, 24, 0);
        several.addStation(Clubs.TUNED, 50, 10, 0, 1, 0);
        Checks.due("next(0, 0) of several at once", several.next(0, 0), 1);
        several.pass(1);
        Checks.due("next(0, 0) an hour later", several.next(0, 0), 0);
    }

    /** All comes again after 24 hours, so no answer is above 23: the 96 hours just hold them all. */
    private static void nextGoesRoundTheDay() {
        for (int from = 0; from < 24; from++) {
            CrystalClub club = Clubs.withMember();
            club.listen(0, false);
            club.addStation(Clubs.TUNED, 50, 10, from, 1, 0);
            for (int hour = 0; hour < 26; hour++) {
                Checks.due("next(0, 0) of hour " + from + " in hour " + hour, club.next(0, 0), (from - hour + 48) % 24);
                club.pass(1);
            }
        }
    }

    private static void nextNeverComes() {
        CrystalClub club = Clubs.withMember();
        Clubs.addPlain(club, 1047, 100);
        Clubs.addPlain(club, Clubs.TUNED, 4);
        Checks.due("next(0, 0) out of reach", club.next(0, 0), -1);
        Checks.due("next(0, 1) too weak", club.next(0, 1), -1);
        CrystalClub both = Clubs.hearing(50, 50);
        Checks.due("next(0, 0) of two that are always as strong", both.next(0, 0), -1);
        Checks.due("next(0, 1) of two that are always as strong", both.next(0, 1), -1);
    }

    /** A club with one member, whose aerial comes first, and two stations: frequency, power and far of each. */
    private static CrystalClub ofTwo(int[] c) {
        CrystalClub club = new CrystalClub();
        club.join(77, c[0]);
        club.turn(0, 44);
        club.addStation(c[1], c[2], c[3], 0, 24, 0);
        club.addStation(c[4], c[5], c[6], 0, 24, 0);
        return club;
    }

    private static void dueApart(int[] c, int due) {
        CrystalClub club = ofTwo(c);
        Checks.due("apart(0, 0, 1) of " + c[1] + " and " + c[4], club.apart(0, 0, 1), due);
        Checks.due("apart(0, 1, 0) of " + c[1] + " and " + c[4], club.apart(0, 1, 0), due);
    }

    private static void apartGoesFromTwentyToTwoHundred() {
        // What 19 turns can do, 20 can as well: were 19 asked too, it would be told here.
        dueApart(new int[] {60, 2422, 5, 1, 2442, 50, 50}, 20);
        dueApart(new int[] {10, 333, 50, 10, 340, 50, 10}, 200);
        // 201 turns would do.
        dueApart(new int[] {10, 332, 5, 10, 406, 50, 1}, -1);
        dueApart(new int[] {60, 419, 10, 10, 407, 5, 50}, -1);
    }

    private static void apartUsesTheWholeDial() {
        // With fewer turns the one is heard nowhere but at 100, or at 0.
        dueApart(new int[] {10, 330, 10, 1, 375, 10, 10}, 188);
        dueApart(new int[] {60, 500, 5, 50, 514, 10, 10}, 198);
        // A dial at 101 would do with 40 turns, one at -1 with 56.
        dueApart(new int[] {60, 644, 50, 1, 861, 100, 10}, 41);
        dueApart(new int[] {60, 592, 5, 10, 1847, 100, 50}, -1);
    }

    /** A power of 5 is a strength of 5 at the full fading alone; and 82 turns just bring the other one into reach. */
    private static void apartFadesWithTheHour() {
        CrystalClub club = Clubs.withMember();
        club.listen(0, false);
        Clubs.addPlain(club, 1000, 5);
        Clubs.addPlain(club, 500, 100);
        int full = club.apart(0, 0, 1);
        Checks.due("apart(0, 0, 1) in hour 0", full, 82);
        club.pass(1);
        Checks.due("apart(0, 0, 1) in hour 1", club.apart(0, 0, 1), -1);
        Checks.due("apart(0, 1, 0) in hour 1", club.apart(0, 1, 0), -1);
        club.pass(11);
        Checks.due("apart(0, 0, 1) in hour 12", club.apart(0, 0, 1), full);
    }

    private static void apartTakesJustBothAsOnTheAir() {
        CrystalClub on = ofTwo(new int[] {60, 500, 5, 50, 514, 10, 10});
        CrystalClub off = new CrystalClub();
        off.join(77, 60);
        off.addStation(500, 5, 50, 12, 1, 0);
        off.addStation(514, 10, 10, 13, 1, 0);
        Checks.due("apart(0, 0, 1) of two off the air", off.apart(0, 0, 1), on.apart(0, 0, 1));
        for (int i = 0; i < 10; i++) {
            off.addStation(500 + i, 100, 1, 0, 24, 0);
        }
        Checks.due("apart(0, 0, 1) beside ten others", off.apart(0, 0, 1), on.apart(0, 0, 1));
        Checks.due("apart(0, 1, 0) beside ten others", off.apart(0, 1, 0), on.apart(0, 1, 0));
    }

    private static void apartFindsNone() {
        dueApart(new int[] {10, 1000, 50, 10, 1000, 30, 10}, -1);
        dueApart(new int[] {10, 500, 100, 1, 2000, 4, 10}, -1);
        dueApart(new int[] {60, 3000, 100, 1, 300, 100, 1}, -1);
    }

    private static void apartNeedsStations() {
        for (int stations : new int[] {0, 2, 12}) {
            CrystalClub club = Clubs.of(1, stations);
            for (int wrong : Checks.beyond(0, stations - 1)) {
                Checks.refusesIndex(club, "apart(0, " + wrong + ", 1) of " + stations, () -> club.apart(0, wrong, 1));
                Checks.refusesIndex(club, "apart(0, 0, " + wrong + ") of " + stations, () -> club.apart(0, 0, wrong));
            }
            if (stations > 0) {
                Checks.takes("apart(0, 0, last)", () -> club.apart(0, 0, stations - 1));
                Checks.takes("apart(0, last, 0)", () -> club.apart(0, stations - 1, 0));
            }
        }
    }

    private static void apartNeedsTwoStations() {
        CrystalClub club = Clubs.of(8, 12);
        for (int station = 0; station < 12; station++) {
            int both = station;
            Checks.refusesArgument(club, "apart(7, " + both + ", " + both + ")", () -> club.apart(7, both, both));
        }
        CrystalClub alike = Clubs.hearing(50, 50);
        Checks.due("apart(0, 0, 1) of two alike, which are not the same", alike.apart(0, 0, 1), -1);
    }

    /** Logs have lines, letters are on their way, and hours lie ahead in which more are written. */
    private static CrystalClub busy() {
        CrystalClub club = Clubs.withLines(8, 4);
        for (int i = 0; i < 11; i++) {
            club.addStation(640 + 20 * i, 50 + i, 1 + i, 2 * i, 10, i);
        }
        for (int member = 0; member < 8; member++) {
            club.turn(member, 7 * member);
            club.write(member, member % 4);
        }
        club.listen(3, false);
        club.renew(2);
        return club;
    }

    private interface Question {
        long ask(CrystalClub club);
    }

    /** One of two equal clubs is asked; after that both answer alike for days. */
    private static void changesNothing(String name, Question first, Question second) {
        CrystalClub asked = busy();
        CrystalClub twin = busy();
        Checks.due(name + " asked again", first.ask(asked), first.ask(asked));
        Checks.due("digest() after " + name, asked.digest(), twin.digest());
        for (int i = 0; i < 8; i++) {
            second.ask(asked);
            Checks.due("hears(" + i + ") after " + name, asked.hears(i), twin.hears(i));
            Checks.due("pass(30) after " + name, asked.pass(30), twin.pass(30));
            Checks.due("digest() after " + name, asked.digest(), twin.digest());
        }
    }

    private static void foreseeTellsWhatPassDoes() {
        for (int hours : new int[] {1, 2, 24, 239, 240}) {
            CrystalClub club = busy();
            int lines = club.foresee(hours, 0);
            int confirmed = club.foresee(hours, 1);
            Checks.due("pass(" + hours + ")", club.pass(hours), lines);
            Checks.due("count(6) after " + hours + " hours", club.count(6), confirmed);
        }
        Checks.due("foresee(1, 0), when each writes a line", Clubs.of(8, 1).foresee(1, 0), 8);
    }

    private static void foreseeEndsWhereLogsAreFull() {
        CrystalClub club = Clubs.withLines(2, 10);
        club.pass(240);
        club.pass(240);
        club.pass(216);
        Checks.due("member(0, 7)", club.member(0, 7), 39);
        Checks.due("foresee(240, 0) with room for a line each", club.foresee(240, 0), 2);
        Checks.due("foresee(1, 0) with room for a line each", club.foresee(1, 0), 2);
        club.pass(1);
        Checks.due("foresee(240, 0) with full logs", club.foresee(240, 0), 0);
        Checks.due("foresee(240, 0) without members", Clubs.of(0, 12).foresee(240, 0), 0);
        Checks.due("foresee(240, 0) without stations", Clubs.of(8, 0).foresee(240, 0), 0);
    }

    private static void foreseeTellsConfirmedLines() {
        CrystalClub club = Clubs.withLines(2, 2);
        Checks.due("foresee(240, 1) without letters", club.foresee(240, 1), 0);
        club.write(0, 0);
        club.write(1, 1);
        Checks.due("foresee(168, 1), an hour too few", club.foresee(168, 1), 0);
        Checks.due("foresee(169, 1)", club.foresee(169, 1), 2);
        club.pass(168);
        Checks.due("foresee(1, 1) in the hour of the answers", club.foresee(1, 1), 2);
        club.pass(1);
        Checks.due("foresee(240, 1) of what is confirmed before", club.foresee(240, 1), 0);
        CrystalClub weak = Clubs.withLine(7, 10);
        weak.write(0, 0);
        Checks.due("foresee(240, 1) of a line of 7", weak.foresee(240, 1), 0);
    }

    private static void foreseeNeedsHours() {
        CrystalClub club = Clubs.of(8, 1);
        for (int what = 0; what < 2; what++) {
            int which = what;
            for (int wrong : Checks.beyond(1, 240)) {
                Checks.refusesArgument(club, "foresee(" + wrong + ", " + what + ")", () -> club.foresee(wrong, which));
            }
            Checks.takes("foresee(1, " + what + ")", () -> club.foresee(1, which));
            Checks.takes("foresee(240, " + what + ")", () -> club.foresee(240, which));
        }
    }

    private static void foreseeNeedsAWhat() {
        CrystalClub club = Clubs.of(8, 1);
        for (int hours : new int[] {1, 240}) {
            for (int wrong : Checks.beyond(0, 1)) {
                Checks.refusesIndex(club, "foresee(" + hours + ", " + wrong + ")", () -> club.foresee(hours, wrong));
            }
        }
    }

    private static void meanIsNotCut() {
        CrystalClub club = Clubs.hearing(50);
        club.pass(1);
        Checks.dueD("mean() of 50", club.mean(), 50.0);
        club.join(100, 10);
        club.join(100, 11);
        club.pass(1);
        // 50 * 9 * 10 / 100 = 45 and 50 * 9 * 11 / 100 = 49
        Checks.dueD("mean() of 50, 45 and 49", club.mean(), 144.0 / 3.0);
        club.join(100, 12);
        club.pass(1);
        // 50 * 8 * 12 / 100 = 48, of all that is 192
        Checks.dueD("mean() of 50, 45, 49 and 48", club.mean(), 48.0);
        club.join(100, 14);
        club.pass(1);
        // 50 * 7 * 14 / 100 = 49
        Checks.dueD("mean() of 50, 45, 49, 48 and 49", club.mean(), 241.0 / 5.0);
    }

    private static void meanOfNoLines() {
        Checks.dueD("mean() of an empty club", new CrystalClub().mean(), 0.0);
        CrystalClub club = Clubs.of(8, 12);
        Checks.dueD("mean() of members without lines", club.mean(), 0.0);
        club.pass(1);
        Checks.dueD("mean() of a line each", club.mean(), 50.0);
    }

    private static void digestOfAnEmptyClub() {
        CrystalClub club = new CrystalClub();
        long seventh = 31L * 31 * 31 * 31 * 31 * 31 * 31;
        Checks.due("digest()", club.digest(), 701 * seventh * 31);
        club.pass(1);
        Checks.due("digest() in hour 1", club.digest(), 701 * seventh * 31 + seventh);
    }

    private static void digestWrapsAround() {
        for (CrystalClub club : new CrystalClub[] {new CrystalClub(), Clubs.of(0, 1), Clubs.of(1, 0), Clubs.of(8, 12)}) {
            Checks.due("digest()", club.digest(), Digests.due(club));
            club.pass(240);
            Checks.due("digest() after pass(240)", club.digest(), Digests.due(club));
        }
    }

    /** A letter that is written sooner comes first, though it is answered later, and stays first among those left. */
    private static void digestKeepsTheOrderOfLetters() {
        CrystalClub club = new CrystalClub();
        club.addStation(1000, 100, 1, 0, 24, 0);
        club.addStation(500, 100, 50, 0, 24, 0);
        club.join(100, 60);
        club.join(200, 60);
        club.pass(24);
        club.listen(0, false);
        club.pass(24);
        club.listen(1, false);
        int[][] letters = {{1, 1, 48 + 168}, {0, 0, 48 + 48}, {1, 0, 48 + 168}};
        for (int[] letter : letters) {
            Checks.due("write(" + letter[0] + ", " + letter[1] + ")", club.write(letter[0], letter[1]), letter[2]);
        }
        Checks.due("digest() with three letters", club.digest(), Digests.due(club, letters));
        club.pass(49);
        Checks.due("digest() with two left", club.digest(), Digests.due(club, letters[0], letters[2]));
        club.pass(120);
        Checks.due("digest() with none left", club.digest(), Digests.due(club));
    }
}
