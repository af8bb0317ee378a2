/** The boundaries that the chapters "What it is" and "Terms" name, each with a test of its own. */
public final class EdgesOfTermsTest {
    public static void main(String[] args) {
        Sentences.chapter("What it is");
        Sentences.hold("at most 512 calls", EdgesOfTermsTest::fiveHundredAndTwelveCallsAreAnswered);
        Sentences.chapter("Terms");
        numbersAndStations();
        membersAndSets();
        reachAndHearing();
        logsAndHours();
        exceptions();
        Sentences.end("EdgesOfTermsTest");
    }

    private static void numbersAndStations() {
        Sentences.hold("/ is cut towards 0", EdgesOfTermsTest::quotientsAreCut);
        Sentences.hold("the hour of the day is that by the remainder of 24", EdgesOfTermsTest::hoursOfTheDayComeAgain);
        Sentences.hold("There are at most 12, numbered from 0", EdgesOfTermsTest::twelveStationsHaveRoom);
        Sentences.hold("each has a frequency, 300 to 3000", () -> stationTells(0, 300, 3000));
        Sentences.hold("a power, 1 to 100", () -> stationTells(1, 1, 100));
        Sentences.hold("is 1 to 50 far", () -> stationTells(2, 1, 50));
        Sentences.hold("from an hour of the day on, 0 to 23, for 1 to 24 hours each day",
            EdgesOfTermsTest::stationsAreOnTheAirRoundTheDay);
        Sentences.hold("has a phase, 0 to 11", EdgesOfTermsTest::phasesShiftTheFading);
        Sentences.hold("(the hour and the phase) by the remainder of 12, added: 4 to 10",
            EdgesOfTermsTest::fadingGoesFromFourToTen);
    }

    private static void membersAndSets() {
        Sentences.hold("There are at most 8, numbered likewise", EdgesOfTermsTest::eightMembersHaveRoom);
        Sentences.hold("a coil of 20 to 200 turns", EdgesOfTermsTest::coilsHaveTheirEnds);
        Sentences.hold("a dial, 0 to 100 (0, at first)", EdgesOfTermsTest::dialsHaveTheirEnds);
        Sentences.hold("an aerial, 1 to 60 long", EdgesOfTermsTest::aerialsHaveTheirEnds);
        Sentences.hold("a crystal, 0 to 9 (9, at first)", EdgesOfTermsTest::crystalsHaveTheirEnds);
        Sentences.hold("and listens (at first) or not", EdgesOfTermsTest::membersListenAtFirst);
        Sentences.hold("100000 / (turns and dial, added)", EdgesOfTermsTest::setsAreTunedAtTheEnds);
        Sentences.hold("Its width is 80 less turns / 3, but at least 10", EdgesOfTermsTest::widthsOfAllCoils);
    }

    private static void reachAndHearing() {
        Sentences.hold("A station that is on the air is in reach", EdgesOfTermsTest::offTheAirIsOutOfReach);
        Sentences.hold("without its sign, is less than the width", EdgesOfTermsTest::reachEndsAtTheWidth);
        Sentences.hold("each step cut", EdgesOfTermsTest::eachStepIsCut);
        Sentences.hold("Stations with a strength of 0 are not in reach", EdgesOfTermsTest::noStrengthIsNoReach);
        Sentences.hold("if its strength is at least 5", EdgesOfTermsTest::fiveIsHeard);
        Sentences.hold("each by itself", EdgesOfTermsTest::othersAreNotAdded);
        Sentences.hold("(2 * the strength of the other one is at most that of it)", EdgesOfTermsTest::halfIsHeard);
        Sentences.hold("of several as strong the one with the smallest number", EdgesOfTermsTest::twoAsStrongAreSeveral);
        Sentences.hold("several at once (with two or more in reach) or none", EdgesOfTermsTest::twoInReachAreSeveral);
    }

    private static void logsAndHours() {
        Sentences.hold("a log of at most 40 lines", EdgesOfTermsTest::fortyLinesHaveRoom);
        Sentences.hold("one who listens, hears a station", EdgesOfTermsTest::onlyWhoListensAndHearsOneWrites);
        Sentences.hold("has no line of it in this day (hours with the same number hour / 24)",
            EdgesOfTermsTest::aDayBeginsAtHourTwentyFour);
        Sentences.hold("if the log has room", EdgesOfTermsTest::aFullLogStaysAsItIs);
        Sentences.hold("if the hour can be divided by 6", EdgesOfTermsTest::crystalsWearInHoursByTheSix);
        Sentences.hold("1 less (at least 0)", EdgesOfTermsTest::crystalsEndAtNone);
        Sentences.hold("of which the days are over is answered now", EdgesOfTermsTest::lettersAreAnsweredWhenTheDaysAreOver);
        Sentences.hold("if its line has a strength of at least 8, this is confirmed", () -> lineIsConfirmed(8, 1));
        Sentences.hold("otherwise it stays as it is", () -> lineIsConfirmed(7, 0));
        Sentences.hold("if at least one line of it in the log is confirmed", EdgesOfTermsTest::oneConfirmedLineIsACard);
        Sentences.hold("(one card of each station)", EdgesOfTermsTest::twoConfirmedLinesAreOneCard);
        Sentences.hold("The hour is 1 greater", EdgesOfTermsTest::anHourIsOneGreater);
    }

    private static void exceptions() {
        Sentences.hold("A method that throws an exception changes nothing", EdgesOfTermsTest::refusedCallsChangeNothing);
        Sentences.hold("If several exceptions apply, the one that is named first is thrown",
            EdgesOfTermsTest::theFirstNamedExceptionIsThrown);
    }

    /** 20 calls fill the club, 490 let as many hours go by as can be, and two ask. */
    private static void fiveHundredAndTwelveCallsAreAnswered() {
        CrystalClub club = new CrystalClub();
        for (int i = 0; i < 12; i++) {
            club.addStation(Clubs.TUNED, 100, 1, 2 * i, 2, 0);
        }
        for (int i = 0; i < 8; i++) {
            club.join(100, 60);
        }
        int written = 0;
        for (int i = 0; i < 490; i++) {
            written += club.pass(240);
        }
        Checks.due("lines in 490 times pass(240)", written, 8 * 40);
        Checks.due("log(7, 39, 0), the fourth of its fourth day", club.log(7, 39, 0), 3 * 24 + 6);
        Checks.due("count(0), the 512th call", club.count(0), 490 * 240);
    }

    private static void quotientsAreCut() {
        CrystalClub club = Clubs.withMember();
        club.turn(0, 2);
        Checks.due("100000 / 102", club.member(0, 5), 980);
        club.turn(0, 99);
        Checks.due("100000 / 199, nearer to 503", club.member(0, 5), 502);
        club.wind(0, 62);
        Checks.due("80 less 62 / 3, which is nearer to 21", club.member(0, 6), 60);
    }

    private static void hoursOfTheDayComeAgain() {
        CrystalClub club = new CrystalClub();
        club.addStation(1000, 50, 10, 23, 1, 0);
        club.addStation(1000, 50, 10, 0, 1, 0);
        for (int hour = 0; hour < 72; hour++) {
            Checks.due("the one of 23 in hour " + hour, club.station(0, 3), hour == 23 || hour == 47 || hour == 71 ? 1 : 0);
            Checks.due("the one of 0 in hour " + hour, club.station(1, 3), hour == 0 || hour == 24 || hour == 48 ? 1 : 0);
            club.pass(1);
        }
    }

    private static void twelveStationsHaveRoom() {
        CrystalClub club = new CrystalClub();
        for (int number = 0; number < 12; number++) {
            Checks.due("addStation", club.addStation(300 + number, 1 + number, 1, 0, 24, 0), number);
        }
        Checks.refusesState(club, "the 13th station", () -> club.addStation(500, 50, 10, 0, 24, 0));
        Checks.due("count(1)", club.count(1), 12);
        for (int number = 0; number < 12; number++) {
            Checks.due("station(" + number + ", 0)", club.station(number, 0), 300 + number);
            Checks.due("station(" + number + ", 1)", club.station(number, 1), 1 + number);
        }
    }

    /** Stations with the least and the greatest value, and with those beside them, keep what they were founded with. */
    private static void stationTells(int what, int least, int most) {
        CrystalClub club = new CrystalClub();
        int[] values = {least, most, least + 1, most - 1};
        for (int number = 0; number < values.length; number++) {
            int[] s = {1000, 50, 10};
            s[what] = values[number];
            Checks.due("addStation with " + values[number], club.addStation(s[0], s[1], s[2], 0, 24, 0), number);
            Checks.due("station(" + number + ", " + what + ")", club.station(number, what), values[number]);
        }
    }

    /** Each hour to begin with and each number of hours: 12 stations at a time, for two days. */
    private static void stationsAreOnTheAirRoundTheDay() {
        for (int first = 0; first < 24 * 24; first += 12) {
            CrystalClub club = new CrystalClub();
            for (int i = 0; i < 12; i++) {
                club.addStation(1000, 50, 10, (first + i) / 24, 1 + (first + i) % 24, 0);
            }
            for (int hour = 0; hour < 48; hour++) {
                for (int i = 0; i < 12; i++) {
                    int from = (first + i) / 24;
                    int hours = 1 + (first + i) % 24;
                    Checks.due("on the air from " + from + " for " + hours + " in hour " + hour,
                        club.station(i, 3), isOnTheAir(from, hours, hour) ? 1 : 0);
                }
                club.pass(1);
            }
        }
    }

    private static boolean isOnTheAir(int from, int hours, int hour) {
        for (int on = from; on < from + hours; on++) {
            if (on % 24 == hour % 24) {
                return true;
            }
        }
        return false;
    }

    private static void phasesShiftTheFading() {
        CrystalClub club = new CrystalClub();
        int[] fading = {10, 9, 8, 7, 6, 5, 4, 5, 6, 7, 8, 9};
        for (int phase = 0; phase < 12; phase++) {
            club.addStation(1000, 50, 10, 0, 24, phase);
            Checks.due("fading of phase " + phase + " in hour 0", club.station(phase, 4), fading[phase]);
        }
    }

    private static void fadingGoesFromFourToTen() {
        CrystalClub club = new CrystalClub();
        for (int phase = 0; phase < 12; phase++) {
            club.addStation(1000, 50, 10, 0, 24, phase);
        }
        int[] fading = {10, 9, 8, 7, 6, 5, 4, 5, 6, 7, 8, 9};
        for (int hour = 0; hour < 36; hour++) {
            for (int phase = 0; phase < 12; phase++) {
                Checks.due("fading of phase " + phase + " in hour " + hour, club.station(phase, 4),
                    fading[(hour + phase) % 12]);
            }
            club.pass(1);
        }
    }

    private static void eightMembersHaveRoom() {
        CrystalClub club = new CrystalClub();
        for (int number = 0; number < 8; number++) {
            Checks.due("join", club.join(20 + number, 1 + number), number);
        }
        Checks.refusesState(club, "the ninth member", () -> club.join(100, 10));
        Checks.due("count(3)", club.count(3), 8);
        for (int number = 0; number < 8; number++) {
            Checks.due("member(" + number + ", 0)", club.member(number, 0), 20 + number);
            Checks.due("member(" + number + ", 2)", club.member(number, 2), 1 + number);
        }
    }

    private static void coilsHaveTheirEnds() {
        CrystalClub club = new CrystalClub();
        club.join(20, 10);
        club.join(200, 10);
        Checks.due("member(0, 0)", club.member(0, 0), 20);
        Checks.due("member(1, 0)", club.member(1, 0), 200);
        Checks.due("wind(0, 200)", club.wind(0, 200), 20);
        Checks.due("wind(1, 20)", club.wind(1, 20), 200);
        Checks.due("member(0, 0)", club.member(0, 0), 200);
        Checks.due("member(1, 0)", club.member(1, 0), 20);
    }

    private static void dialsHaveTheirEnds() {
        CrystalClub club = Clubs.withMember();
        Checks.due("member(0, 1) at first", club.member(0, 1), 0);
        club.turn(0, 100);
        Checks.due("member(0, 1)", club.member(0, 1), 100);
        club.turn(0, 0);
        Checks.due("member(0, 1)", club.member(0, 1), 0);
    }

    private static void aerialsHaveTheirEnds() {
        CrystalClub club = new CrystalClub();
        Clubs.addPlain(club, Clubs.TUNED, 100);
        club.join(100, 1);
        club.join(100, 60);
        Checks.due("member(0, 2)", club.member(0, 2), 1);
        Checks.due("member(1, 2)", club.member(1, 2), 60);
        Checks.due("strength(0, 0)", club.strength(0, 0), 10);
        Checks.due("strength(1, 0)", club.strength(1, 0), 600);
    }

    private static void crystalsHaveTheirEnds() {
        CrystalClub club = Clubs.hearing(100);
        Checks.due("member(0, 3) at first", club.member(0, 3), 9);
        Checks.due("strength(0, 0) at first", club.strength(0, 0), 100);
        club.pass(60);
        Checks.due("member(0, 3) worn", club.member(0, 3), 0);
        Checks.due("strength(0, 0) worn", club.strength(0, 0), 10);
    }

    private static void membersListenAtFirst() {
        CrystalClub club = Clubs.of(2, 1);
        club.listen(1, false);
        Checks.due("member(0, 4)", club.member(0, 4), 1);
        Checks.due("member(1, 4)", club.member(1, 4), 0);
        Checks.due("count(4)", club.count(4), 1);
        Checks.due("pass(1)", club.pass(1), 1);
    }

    private static void setsAreTunedAtTheEnds() {
        int[][] tuned = {{20, 0, 5000}, {20, 100, 833}, {200, 0, 500}, {200, 100, 333}};
        for (int[] set : tuned) {
            CrystalClub club = new CrystalClub();
            club.join(set[0], 10);
            club.turn(0, set[1]);
            Checks.due("tuned with " + set[0] + " and " + set[1], club.member(0, 5), set[2]);
        }
    }

    /** No coil comes below a width of 14, so what would be less than 10 is never seen. */
    private static void widthsOfAllCoils() {
        CrystalClub club = Clubs.withMember();
        for (int turns = 20; turns <= 200; turns++) {
            club.wind(0, turns);
            Checks.due("width of " + turns + " turns", club.member(0, 6), Math.max(10, 80 - turns / 3));
        }
    }

    private static void offTheAirIsOutOfReach() {
        CrystalClub club = Clubs.withMember();
        club.addStation(Clubs.TUNED, 100, 10, 22, 4, 0);
        for (int hour = 0; hour < 48; hour++) {
            boolean isOn = hour % 24 >= 22 || hour % 24 < 2;
            Checks.due("hears(0) in hour " + hour, club.hears(0), isOn ? 0 : -1);
            Checks.note(club.strength(0, 0) > 0 == isOn, "strength(0, 0) is " + club.strength(0, 0) + " in hour " + hour);
            club.pass(1);
        }
    }

    /** Turns, dial, the frequency to which they are tuned, and the width. */
    private static void reachEndsAtTheWidth() {
        int[][] sets = {{20, 80, 1000, 74}, {100, 0, 1000, 47}, {200, 50, 400, 14}};
        for (int[] set : sets) {
            CrystalClub club = new CrystalClub();
            club.join(set[0], 10);
            club.turn(0, set[1]);
            int[] beside = {set[3] - 1, set[3], set[3] + 1};
            for (int difference : beside) {
                int above = club.addStation(set[2] + difference, 100, 1, 0, 24, 0);
                int below = club.addStation(set[2] - difference, 100, 1, 0, 24, 0);
                int due = difference < set[3] ? 1000 * (set[3] - difference) / set[3] : 0;
                Checks.due(difference + " above, of a width of " + set[3], club.strength(0, above), due);
                Checks.due(difference + " below, of a width of " + set[3], club.strength(0, below), due);
            }
        }
    }

    private static void eachStepIsCut() {
        CrystalClub first = new CrystalClub();
        first.join(100, 4);
        first.addStation(1001, 5, 3, 0, 24, 0);
        // 5 * 10 * 4 / 30 = 6, 6 * 46 / 47 = 5; cut but once it were 6.
        Checks.due("cut by how far it is", first.strength(0, 0), 5);
        CrystalClub second = Clubs.withMember();
        second.addStation(1001, 17, 10, 0, 24, 0);
        second.pass(1);
        // 17 * 9 * 10 / 100 = 15, 15 * 46 / 47 = 14, 14 * 9 / 10 = 12; cut but once it were 13.
        Checks.due("cut by the width", second.strength(0, 0), 12);
    }

    /** Beside a station of 4, which alone is not heard, one that were in reach would make several. */
    private static void noStrengthIsNoReach() {
        CrystalClub far = Clubs.hearing(4);
        far.addStation(1000, 4, 50, 0, 24, 0);
        far.addStation(1000, 1, 11, 0, 24, 0);
        Checks.due("strength(0, 1), 400 / 500", far.strength(0, 1), 0);
        Checks.due("strength(0, 2), 100 / 110", far.strength(0, 2), 0);
        Checks.due("hears(0) beside what is too far", far.hears(0), -1);
        CrystalClub beside = Clubs.hearing(4);
        Clubs.addPlain(beside, 1046, 46);
        Checks.due("strength(0, 1), 46 * 1 / 47", beside.strength(0, 1), 0);
        Checks.due("hears(0) beside what is out of tune", beside.hears(0), -1);
        Clubs.addPlain(beside, 1046, 47);
        Checks.due("strength(0, 2), 47 * 1 / 47", beside.strength(0, 2), 1);
        Checks.due("hears(0) beside a strength of 1", beside.hears(0), -2);
        CrystalClub worn = Clubs.hearing(40, 9);
        worn.pass(60);
        Checks.due("strength(0, 1), 9 * 1 / 10", worn.strength(0, 1), 0);
        Checks.due("hears(0) beside what the crystal ends", worn.hears(0), -1);
    }

    private static void fiveIsHeard() {
        Checks.due("hears(0) of 5", Clubs.hearing(5).hears(0), 0);
        Checks.due("hears(0) of 4", Clubs.hearing(4).hears(0), -1);
        Checks.due("hears(0) of 5 and 1", Clubs.hearing(1, 5).hears(0), 1);
        Checks.due("hears(0) of 4 and 1", Clubs.hearing(1, 4).hears(0), -2);
    }

    private static void othersAreNotAdded() {
        Checks.due("hears(0) of 10 and eleven times 5", Clubs.hearing(5, 5, 5, 5, 5, 5, 5, 10, 5, 5, 5, 5).hears(0), 7);
        Checks.due("hears(0) of 10, 5 and 6", Clubs.hearing(10, 5, 6).hears(0), -2);
        Checks.due("hears(0) of 6, 10 and 5", Clubs.hearing(6, 10, 5).hears(0), -2);
        Checks.due("hears(0) of 5, 6 and 10", Clubs.hearing(5, 6, 10).hears(0), -2);
    }

    private static void halfIsHeard() {
        Checks.due("hears(0) of 10 and 5", Clubs.hearing(10, 5).hears(0), 0);
        Checks.due("hears(0) of 5 and 10", Clubs.hearing(5, 10).hears(0), 1);
        Checks.due("hears(0) of 10 and 6", Clubs.hearing(10, 6).hears(0), -2);
        Checks.due("hears(0) of 6 and 10", Clubs.hearing(6, 10).hears(0), -2);
        Checks.due("hears(0) of 11 and 5", Clubs.hearing(11, 5).hears(0), 0);
        Checks.due("hears(0) of 11 and 6", Clubs.hearing(11, 6).hears(0), -2);
    }

    /** Of two as strong the other one is never at most half as strong: so none of them is heard alone. */
    private static void twoAsStrongAreSeveral() {
        Checks.due("hears(0) of 50 and 50", Clubs.hearing(50, 50).hears(0), -2);
        Checks.due("hears(0) of 20, 50 and 50", Clubs.hearing(20, 50, 50).hears(0), -2);
        Checks.due("hears(0) of 20, 20 and 50", Clubs.hearing(20, 20, 50).hears(0), 2);
    }

    private static void twoInReachAreSeveral() {
        Checks.due("hears(0) of no station", Clubs.withMember().hears(0), -1);
        Checks.due("hears(0) of 1", Clubs.hearing(1).hears(0), -1);
        Checks.due("hears(0) of 1 and 1", Clubs.hearing(1, 1).hears(0), -2);
        Checks.due("hears(0) of 4 and 2", Clubs.hearing(4, 2).hears(0), -2);
        Checks.due("hears(0) of 9, 8 and 7", Clubs.hearing(9, 8, 7).hears(0), -2);
        CrystalClub club = Clubs.hearing(4);
        club.addStation(Clubs.TUNED, 4, 10, 1, 23, 0);
        Checks.due("hears(0) of 4 beside one off the air", club.hears(0), -1);
    }

    /** Three lines each day: 13 days leave room for one more. */
    private static void fortyLinesHaveRoom() {
        CrystalClub club = Clubs.withMember();
        for (int i = 0; i < 3; i++) {
            club.addStation(Clubs.TUNED, 100, 1, 8 * i, 8, 0);
        }
        Checks.due("pass(240)", club.pass(240), 30);
        Checks.due("pass(72)", club.pass(72), 9);
        Checks.due("pass(24), when there is room for one", club.pass(24), 1);
        Checks.due("pass(24), when there is none", club.pass(24), 0);
        Checks.due("member(0, 7)", club.member(0, 7), 40);
        Checks.due("count(5)", club.count(5), 40);
        Checks.due("log(0, 39, 0)", club.log(0, 39, 0), 13 * 24);
        Checks.refusesIndex(club, "log(0, 40, 0)", () -> club.log(0, 40, 0));
    }

    private static void onlyWhoListensAndHearsOneWrites() {
        Checks.due("pass(1) of one who hears 5", Clubs.hearing(5).pass(1), 1);
        Checks.due("pass(1) of one who hears none", Clubs.hearing(4).pass(1), 0);
        Checks.due("pass(1) of one who hears several", Clubs.hearing(10, 6).pass(1), 0);
        CrystalClub club = Clubs.hearing(50);
        club.listen(0, false);
        Checks.due("pass(1) of one who does not listen", club.pass(1), 0);
        club.listen(0, true);
        Checks.due("pass(1) of one who listens again", club.pass(1), 1);
    }

    private static void aDayBeginsAtHourTwentyFour() {
        CrystalClub club = Clubs.withMember();
        club.addStation(Clubs.TUNED, 100, 1, 23, 2, 0);
        // It is on the air in hour 0 too, as the second of its hours.
        Checks.due("pass(1), hour 0", club.pass(1), 1);
        Checks.due("pass(23), with hour 23 of the same day", club.pass(23), 0);
        Checks.due("pass(1), hour 24", club.pass(1), 1);
        club.listen(0, false);
        club.pass(46);
        club.listen(0, true);
        Checks.due("pass(1), hour 71", club.pass(1), 1);
        Checks.due("pass(1), hour 72", club.pass(1), 1);
        Checks.due("log(0, 2, 0)", club.log(0, 2, 0), 71);
        Checks.due("log(0, 3, 0)", club.log(0, 3, 0), 72);
    }

    private static void aFullLogStaysAsItIs() {
        CrystalClub club = Clubs.withLines(1, 10);
        club.join(100, 60);
        for (int i = 0; i < 3; i++) {
            Checks.due("pass(240) of both", club.pass(240), 20);
        }
        Checks.due("pass(240) with room in the second log alone", club.pass(240), 10);
        Checks.due("pass(240) with no room", club.pass(240), 0);
        for (int line = 0; line < 40; line++) {
            Checks.due("log(0, " + line + ", 0)", club.log(0, line, 0), 24 * line);
            Checks.due("log(1, " + line + ", 0)", club.log(1, line, 0), 240 + 24 * line);
        }
    }

    private static void crystalsWearInHoursByTheSix() {
        CrystalClub club = Clubs.withMember();
        club.join(100, 10);
        club.listen(1, false);
        int crystal = 9;
        for (int hour = 0; hour < 50; hour++) {
            club.pass(1);
            crystal -= hour % 6 == 0 ? 1 : 0;
            Checks.due("member(0, 3) after hour " + hour, club.member(0, 3), crystal);
            Checks.due("member(1, 3) after hour " + hour, club.member(1, 3), 9);
        }
    }

    private static void crystalsEndAtNone() {
        CrystalClub club = Clubs.hearing(100);
        club.pass(48);
        Checks.due("member(0, 3) after hour 47", club.member(0, 3), 1);
        club.pass(1);
        Checks.due("member(0, 3) after hour 48", club.member(0, 3), 0);
        club.pass(6);
        Checks.due("member(0, 3) after hour 54", club.member(0, 3), 0);
        club.pass(240);
        Checks.due("member(0, 3) after many more", club.member(0, 3), 0);
    }

    private static void lettersAreAnsweredWhenTheDaysAreOver() {
        CrystalClub club = Clubs.withLine(100, 1);
        Checks.due("write(0, 0) in hour 1", club.write(0, 0), 49);
        club.pass(48);
        Checks.due("log(0, 0, 3) in hour 49", club.log(0, 0, 3), 0);
        Checks.due("count(7) in hour 49", club.count(7), 1);
        club.pass(1);
        Checks.due("log(0, 0, 3) after hour 49", club.log(0, 0, 3), 1);
        Checks.due("count(7) after hour 49", club.count(7), 0);
    }

    private static void lineIsConfirmed(int strength, int due) {
        CrystalClub club = Clubs.withLine(strength, 10);
        Checks.due("log(0, 0, 2)", club.log(0, 0, 2), strength);
        club.write(0, 0);
        club.pass(73);
        Checks.due("log(0, 0, 3) of a line of " + strength, club.log(0, 0, 3), due);
        Checks.due("count(6)", club.count(6), due);
        Checks.due("count(7)", club.count(7), 0);
        Checks.due("member(0, 8)", club.member(0, 8), due);
    }

    private static void oneConfirmedLineIsACard() {
        CrystalClub club = Clubs.withLines(1, 3);
        Checks.due("member(0, 8) of three lines", club.member(0, 8), 0);
        Checks.due("station(0, 5)", club.station(0, 5), 0);
        club.write(0, 2);
        Checks.due("member(0, 8) with a letter on its way", club.member(0, 8), 0);
        club.pass(169);
        Checks.due("member(0, 8)", club.member(0, 8), 1);
        Checks.due("station(0, 5)", club.station(0, 5), 1);
    }

    private static void twoConfirmedLinesAreOneCard() {
        CrystalClub club = Clubs.withLines(1, 3);
        for (int line = 0; line < 3; line++) {
            club.write(0, line);
        }
        club.pass(169);
        Checks.due("count(6)", club.count(6), 3);
        Checks.due("member(0, 8)", club.member(0, 8), 1);
        Checks.due("member(0, 9)", club.member(0, 9), 50);
        Checks.due("station(0, 5)", club.station(0, 5), 1);
    }

    private static void anHourIsOneGreater() {
        CrystalClub club = new CrystalClub();
        for (int hour = 0; hour < 30; hour++) {
            Checks.due("count(0)", club.count(0), hour);
            club.pass(1);
        }
    }

    /** One of two equal clubs refuses each kind of call; after that both answer alike for days. */
    private static void refusedCallsChangeNothing() {
        CrystalClub asked = Clubs.full();
        CrystalClub twin = Clubs.full();
        refuseAll(asked);
        for (int i = 0; i < 9; i++) {
            Checks.due("pass(30)", asked.pass(30), twin.pass(30));
            Checks.due("digest()", asked.digest(), twin.digest());
            Checks.due("hears(0)", asked.hears(0), twin.hears(0));
            Checks.due("next(1, 0)", asked.next(1, 0), twin.next(1, 0));
        }
    }

    private static void refuseAll(CrystalClub club) {
        Checks.refusesState(club, "addStation", () -> club.addStation(1000, 50, 10, 0, 24, 0));
        Checks.refusesArgument(club, "addStation", () -> club.addStation(1000, 50, 10, 0, 24, 12));
        Checks.refusesState(club, "join", () -> club.join(100, 10));
        Checks.refusesArgument(club, "join", () -> club.join(100, 0));
        Checks.refusesArgument(club, "turn", () -> club.turn(0, 101));
        Checks.refusesIndex(club, "turn", () -> club.turn(8, 50));
        Checks.refusesArgument(club, "wind", () -> club.wind(0, 201));
        Checks.refusesIndex(club, "wind", () -> club.wind(8, 50));
        Checks.refusesIndex(club, "listen", () -> club.listen(8, false));
        Checks.refusesIndex(club, "renew", () -> club.renew(8));
        Checks.refusesState(club, "write", () -> club.write(7, 3));
        Checks.refusesState(club, "write", () -> club.write(0, 0));
        Checks.refusesIndex(club, "write", () -> club.write(7, 4));
        Checks.refusesArgument(club, "pass", () -> club.pass(241));
        Checks.refusesArgument(club, "pass", () -> club.pass(0));
        Checks.refusesIndex(club, "dial", () -> club.dial(0, 12));
        Checks.refusesArgument(club, "apart", () -> club.apart(0, 1, 1));
        Checks.refusesArgument(club, "foresee", () -> club.foresee(241, 0));
        Checks.refusesIndex(club, "foresee", () -> club.foresee(240, 2));
    }

    private static void theFirstNamedExceptionIsThrown() {
        CrystalClub club = Clubs.full();
        Checks.refusesArgument(club, "addStation, full and wrong", () -> club.addStation(299, 50, 10, 0, 24, 0));
        Checks.refusesArgument(club, "addStation, full and wrong", () -> club.addStation(1000, 50, 10, 0, 24, 12));
        Checks.refusesArgument(club, "join, full and wrong", () -> club.join(201, 10));
        Checks.refusesArgument(club, "join, full and wrong", () -> club.join(100, 61));
        Checks.refusesIndex(club, "turn, no member and wrong", () -> club.turn(8, 101));
        Checks.refusesIndex(club, "wind, no member and wrong", () -> club.wind(-1, 19));
        Checks.refusesIndex(club, "write, no line and 30 letters", () -> club.write(0, 4));
        Checks.refusesIndex(club, "write, no member and 30 letters", () -> club.write(8, 0));
        Checks.refusesIndex(club, "apart, no member and the same", () -> club.apart(8, 1, 1));
        Checks.refusesIndex(club, "apart, no station and the same", () -> club.apart(0, 12, 12));
        Checks.refusesArgument(club, "foresee, wrong hours and no what", () -> club.foresee(0, 2));
        Checks.refusesArgument(club, "foresee, wrong hours and no what", () -> club.foresee(241, -1));
    }
}
