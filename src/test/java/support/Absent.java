/** Numbers of members and stations that are not there, in clubs with none, with some, and with as many as can be. */
final class Absent {
    interface Call {
        void on(CrystalClub club, int number);
    }

    private Absent() {
    }

    /** A member with such a number is refused; the first one and the last one are taken. */
    static void members(String name, Call call) {
        for (int members : new int[] {0, 1, 5, 8}) {
            CrystalClub club = Clubs.of(members, 12);
            club.pass(1);
            for (int number : Checks.beyond(0, members - 1)) {
                Checks.refusesIndex(club, name + " with member " + number + " of " + members,
                    () -> call.on(club, number));
            }
            if (members > 0) {
                Checks.takes(name + " with the first member", () -> call.on(club, 0));
            }
            if (members > 1) {
                Checks.takes(name + " with the last of " + members, () -> call.on(club, members - 1));
            }
        }
    }

    /** A station with such a number is refused; the first one and the last one are taken. */
    static void stations(String name, Call call) {
        for (int stations : new int[] {0, 1, 7, 12}) {
            CrystalClub club = Clubs.of(8, stations);
            for (int number : Checks.beyond(0, stations - 1)) {
                Checks.refusesIndex(club, name + " with station " + number + " of " + stations,
                    () -> call.on(club, number));
            }
            if (stations > 0) {
                Checks.takes(name + " with the first station", () -> call.on(club, 0));
                Checks.takes(name + " with the last of " + stations, () -> call.on(club, stations - 1));
            }
        }
    }
}
