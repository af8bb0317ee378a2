/** A club of listeners with crystal sets. */
public final class CrystalClub {
    private static final int MOST_STATIONS = 12;
    private static final int MOST_MEMBERS = 8;
    private static final int MOST_LINES = 40;
    private static final int MOST_LETTERS = 30;
    private static final int MOST_HOURS = 240;
    private static final int FARTHEST_NEXT = 96;
    private static final int DAY = 24;

    private static final int LEAST_TURNS = 20;
    private static final int MOST_TURNS = 200;
    private static final int MOST_DIAL = 100;
    private static final int MOST_AERIAL = 60;
    private static final int NEW_CRYSTAL = 9;

    private static final int LEAST_HEARD = 5;
    private static final int LEAST_CONFIRMED = 8;
    private static final int NONE = -1;
    private static final int SEVERAL = -2;

    private static final int STATION_VALUES = 6;
    private static final int MEMBER_VALUES = 10;
    private static final int COUNTS = 8;
    private static final int FORESEEN_VALUES = 2;

    // The columns of a log stand in the order in which log() and digest() tell them.
    private static final int LINE_VALUES = 4;
    private static final int LINE_HOUR = 0;
    private static final int LINE_STATION = 1;
    private static final int LINE_STRENGTH = 2;
    private static final int LINE_CONFIRMED = 3;

    // The columns of the letters stand in the order in which digest() tells them.
    private static final int LETTER_VALUES = 3;
    private static final int LETTER_MEMBER = 0;
    private static final int LETTER_LINE = 1;
    private static final int LETTER_ANSWERED = 2;

    private final Club now;
    // Made once and used again, so that questions about what would be make no new objects.
    private final Club trial;
    private final CrystalSet probe;

    public CrystalClub() {
        now = new Club();
        trial = new Club();
        probe = new CrystalSet();
    }

    // ---- stations and members

    public int addStation(int frequency, int power, int far, int from, int hours, int phase)
            throws IllegalArgumentException, IllegalStateException {
        if (!isWithin(frequency, 300, 3000) || !isWithin(power, 1, 100) || !isWithin(far, 1, 50)) {
            throw new IllegalArgumentException("no such frequency, power or distance");
        }
        if (!isWithin(from, 0, DAY - 1) || !isWithin(hours, 1, DAY) || !isWithin(phase, 0, 11)) {
            throw new IllegalArgumentException("no such hours or phase");
        }
        if (now.stationCount >= MOST_STATIONS) {
            throw new IllegalStateException("there is no room for a station");
        }
        return now.found(new Station(frequency, power, far, from, hours, phase));
    }

    public int join(int turns, int aerial) throws IllegalArgumentException, IllegalStateException {
        if (!isWithin(turns, LEAST_TURNS, MOST_TURNS) || !isWithin(aerial, 1, MOST_AERIAL)) {
            throw new IllegalArgumentException("no such coil or aerial");
        }
        if (now.memberCount >= MOST_MEMBERS) {
            throw new IllegalStateException("there is no room for a member");
        }
        return now.admit(turns, aerial);
    }

    public int turn(int member, int dial) throws IndexOutOfBoundsException, IllegalArgumentException {
        CrystalSet set = setOf(member);
        if (!isWithin(dial, 0, MOST_DIAL)) {
            throw new IllegalArgumentException("no such place of the dial");
        }
        int before = set.dial;
        set.tune(set.turns, dial);
        return before;
    }

    public int wind(int member, int turns) throws IndexOutOfBoundsException, IllegalArgumentException {
        CrystalSet set = setOf(member);
        if (!isWithin(turns, LEAST_TURNS, MOST_TURNS)) {
            throw new IllegalArgumentException("no such coil");
        }
        int before = set.turns;
        set.tune(turns, set.dial);
        return before;
    }

    public boolean listen(int member, boolean listens) throws IndexOutOfBoundsException {
        Member one = memberOf(member);
        boolean before = one.listens;
        one.listens = listens;
        return before;
    }

    public int renew(int member) throws IndexOutOfBoundsException {
        CrystalSet set = setOf(member);
        int before = set.crystal;
        set.crystal = NEW_CRYSTAL;
        return before;
    }

    // ---- what is there

    public int station(int station, int what) throws IndexOutOfBoundsException {
        stationOf(station);
        refuseUnlessWithin(what, STATION_VALUES);
        return now.tellStation(station, what);
    }

    public int member(int member, int what) throws IndexOutOfBoundsException {
        memberOf(member);
        refuseUnlessWithin(what, MEMBER_VALUES);
        return now.tellMember(member, what);
    }

    public int strength(int member, int station) throws IndexOutOfBoundsException {
        CrystalSet set = setOf(member);
        Station sender = stationOf(station);
        return sender.isOnAir(now.hour) ? set.strengthOf(sender, now.hour) : 0;
    }

    public int hears(int member) throws IndexOutOfBoundsException {
        return now.hearingOf(setOf(member), now.hour).verdict();
    }

    public int log(int member, int line, int what) throws IndexOutOfBoundsException {
        Table lines = logOf(member, line);
        refuseUnlessWithin(what, LINE_VALUES);
        return lines.at(line, what);
    }

    // ---- letters

    public int write(int member, int line) throws IndexOutOfBoundsException, IllegalStateException {
        Table lines = logOf(member, line);
        if (lines.at(line, LINE_CONFIRMED) == 1) {
            throw new IllegalStateException("the line is confirmed");
        }
        if (now.hasLetterOf(member, line)) {
            throw new IllegalStateException("a letter of the line is on its way");
        }
        if (now.letters.isFull()) {
            throw new IllegalStateException("there are too many letters on their way");
        }
        return now.send(member, line);
    }

    // ---- hours

    public int pass(int hours) throws IllegalArgumentException {
        if (!isWithin(hours, 1, MOST_HOURS)) {
            throw new IllegalArgumentException("no such number of hours");
        }
        return now.passHours(hours);
    }

    public int count(int what) throws IndexOutOfBoundsException {
        refuseUnlessWithin(what, COUNTS);
        return now.tellCount(what);
    }

    public int rank(int place) throws IndexOutOfBoundsException {
        refuseUnlessWithin(place, now.memberCount);
        return now.memberAtPlace(place);
    }

    // ---- what would be

    public int dial(int member, int station) throws IndexOutOfBoundsException {
        CrystalSet set = setOf(member);
        stationOf(station);
        probe.copyFrom(set);
        return now.bestDial(probe, station);
    }

    public int next(int member, int station) throws IndexOutOfBoundsException {
        CrystalSet set = setOf(member);
        stationOf(station);
        for (int later = 0; later <= FARTHEST_NEXT; later++) {
            if (now.hearingOf(set, now.hour + later).verdict() == station) {
                return later;
            }
        }
        return NONE;
    }

    public int apart(int member, int one, int other)
            throws IndexOutOfBoundsException, IllegalArgumentException {
        CrystalSet set = setOf(member);
        Station first = stationOf(one);
        Station second = stationOf(other);
        if (one == other) {
            throw new IllegalArgumentException("both stations are the same");
        }
        probe.copyFrom(set);
        for (int turns = LEAST_TURNS; turns <= MOST_TURNS; turns++) {
            if (now.keepsApart(probe, turns, first, second)) {
                return turns;
            }
        }
        return NONE;
    }

    public int foresee(int hours, int what) throws IllegalArgumentException, IndexOutOfBoundsException {
        if (!isWithin(hours, 1, MOST_HOURS)) {
            throw new IllegalArgumentException("no such number of hours");
        }
        refuseUnlessWithin(what, FORESEEN_VALUES);
        trial.copyFrom(now);
        int written = trial.passHours(hours);
        return what == 0 ? written : trial.confirmedLines() - now.confirmedLines();
    }

    public double mean() {
        int lines = now.allLines();
        return lines > 0 ? (double) now.allStrengths() / (double) lines : 0.0;
    }

    public long digest() {
        return now.checksum();
    }

    // ---- looking at arguments

    private static boolean isWithin(int number, int least, int most) {
        return number >= least && number <= most;
    }

    private static void refuseUnlessWithin(int number, int bound) throws IndexOutOfBoundsException {
        if (number < 0 || number >= bound) {
            throw new IndexOutOfBoundsException("no such number");
        }
    }

    private Station stationOf(int number) throws IndexOutOfBoundsException {
        Station station = now.stationAt(number);
        if (station == null) {
            throw new IndexOutOfBoundsException("no such station");
        }
        return station;
    }

    private Member memberOf(int number) throws IndexOutOfBoundsException {
        Member member = now.memberAt(number);
        if (member == null) {
            throw new IndexOutOfBoundsException("no such member");
        }
        return member;
    }

    private CrystalSet setOf(int number) throws IndexOutOfBoundsException {
        return memberOf(number).set;
    }

    private Table logOf(int number, int line) throws IndexOutOfBoundsException {
        Table lines = memberOf(number).lines;
        refuseUnlessWithin(line, lines.size);
        return lines;
    }

    private static int quotient(int dividend, int divisor) {
        return divisor == 0 ? 0 : dividend / divisor;
    }

    private static int distance(int one, int other) {
        return one < other ? other - one : one - other;
    }

    private static final class Station {
        private final int frequency;
        private final int power;
        private final int far;
        private final int from;
        private final int hours;
        private final int phase;

        Station(int frequency, int power, int far, int from, int hours, int phase) {
            this.frequency = frequency;
            this.power = power;
            this.far = far;
            this.from = from;
            this.hours = hours;
            this.phase = phase;
        }

        boolean isOnAir(int hour) {
            int since = (hour % DAY - from + DAY) % DAY;
            return since < hours;
        }

        int fading(int hour) {
            int past = (hour + phase) % 12 - 6;
            return 4 + (past < 0 ? -past : past);
        }

        int daysOfMail() {
            return far / 10 + 2;
        }
    }

    private static final class CrystalSet {
        private int turns;
        private int dial;
        private int aerial;
        private int crystal;
        private int tuned;
        private int width;

        // The only way to change turns or dial, so that tuned and width always fit them.
        void tune(int newTurns, int newDial) {
            turns = newTurns;
            dial = newDial;
            tuned = quotient(100000, newTurns + newDial);
            width = Math.max(10, 80 - newTurns / 3);
        }

        void copyFrom(CrystalSet other) {
            turns = other.turns;
            dial = other.dial;
            aerial = other.aerial;
            crystal = other.crystal;
            tuned = other.tuned;
            width = other.width;
        }

        // Whether the station is on the air is left to the caller: apart() asks as if it were.
        int strengthOf(Station station, int hour) {
            int inside = width - distance(station.frequency, tuned);
            if (inside <= 0) {
                return 0;
            }
            int full = quotient(station.power * station.fading(hour) * aerial, 10 * station.far);
            return quotient(full * inside, width) * (1 + crystal) / 10;
        }
    }

    /** What a set hears of the stations that are offered to it. */
    private static final class Hearing {
        private int inReach;
        private int loudest;
        private int strength;
        private int runnerUp;

        void clear() {
            inReach = 0;
            loudest = NONE;
            strength = 0;
            runnerUp = 0;
        }

        // To be called by rising numbers: of several as strong the first one offered stays.
        void offer(int number, int itsStrength) {
            if (itsStrength <= 0) {
                return;
            }
            inReach++;
            if (itsStrength > strength) {
                runnerUp = strength;
                strength = itsStrength;
                loudest = number;
            } else if (itsStrength > runnerUp) {
                runnerUp = itsStrength;
            }
        }

        int verdict() {
            if (strength >= LEAST_HEARD && 2 * runnerUp <= strength) {
                return loudest;
            }
            return inReach >= 2 ? SEVERAL : NONE;
        }
    }

    /** Rows of numbers, as many as there is room for. */
    private static final class Table {
        private final int columns;
        private final int[] cells;
        private int size;

        Table(int rows, int columns) {
            this.columns = columns;
            this.cells = new int[Math.max(0, rows * columns)];
        }

        boolean isFull() {
            return (size + 1) * columns > cells.length;
        }

        int at(int row, int column) {
            int place = row * columns + column;
            return place >= 0 && place < cells.length ? cells[place] : 0;
        }

        void put(int row, int column, int value) {
            int place = row * columns + column;
            if (place >= 0 && place < cells.length) {
                cells[place] = value;
            }
        }

        void copyRow(int from, int to) {
            for (int column = 0; column < columns; column++) {
                put(to, column, at(from, column));
            }
        }

        void copyFrom(Table other) {
            size = other.size;
            for (int place = 0; place < cells.length && place < other.cells.length; place++) {
                cells[place] = other.cells[place];
            }
        }

        int sum(int column) {
            int sum = 0;
            for (int row = 0; row < size; row++) {
                sum += at(row, column);
            }
            return sum;
        }
    }

    private static final class Member {
        private final CrystalSet set;
        private final Table lines;
        private boolean listens;

        Member() {
            set = new CrystalSet();
            lines = new Table(MOST_LINES, LINE_VALUES);
        }

        void begin(int turns, int aerial) {
            set.tune(turns, 0);
            set.aerial = aerial;
            set.crystal = NEW_CRYSTAL;
            listens = true;
            lines.size = 0;
        }

        void copyFrom(Member other) {
            set.copyFrom(other.set);
            lines.copyFrom(other.lines);
            listens = other.listens;
        }

        boolean hasLineOf(int station, int day) {
            for (int line = 0; line < lines.size; line++) {
                if (lines.at(line, LINE_STATION) == station && lines.at(line, LINE_HOUR) / DAY == day) {
                    return true;
                }
            }
            return false;
        }

        // A bit for each station, as a second confirmed line of one brings no second card.
        int cards() {
            int cards = 0;
            for (int line = 0; line < lines.size; line++) {
                if (lines.at(line, LINE_CONFIRMED) == 1) {
                    cards |= 1 << lines.at(line, LINE_STATION);
                }
            }
            return cards;
        }

        void addLine(int hour, int station, int strength) {
            int line = lines.size;
            lines.put(line, LINE_HOUR, hour);
            lines.put(line, LINE_STATION, station);
            lines.put(line, LINE_STRENGTH, strength);
            lines.put(line, LINE_CONFIRMED, 0);
            lines.size++;
        }

        void takeAnswer(int line) {
            if (lines.at(line, LINE_STRENGTH) >= LEAST_CONFIRMED) {
                lines.put(line, LINE_CONFIRMED, 1);
            }
        }

        void wearCrystal() {
            if (listens && set.crystal > 0) {
                set.crystal--;
            }
        }
    }

    /** All that is so at one hour; foresee() lets the hours go by on a second one. */
    private static final class Club {
        private final Station[] stations;
        private final Member[] members;
        private final Table letters;
        private final Hearing hearing;
        private int stationCount;
        private int memberCount;
        private int hour;

        Club() {
            stations = new Station[MOST_STATIONS];
            members = new Member[MOST_MEMBERS];
            for (int number = 0; number < members.length; number++) {
                members[number] = new Member();
            }
            letters = new Table(MOST_LETTERS, LETTER_VALUES);
            hearing = new Hearing();
        }

        void copyFrom(Club other) {
            hour = other.hour;
            stationCount = other.stationCount;
            for (int number = 0; number < stations.length; number++) {
                stations[number] = other.stationAt(number);
            }
            memberCount = other.memberCount;
            for (int number = 0; number < memberCount; number++) {
                Member mine = memberAt(number);
                Member its = other.memberAt(number);
                if (mine != null && its != null) {
                    mine.copyFrom(its);
                }
            }
            letters.copyFrom(other.letters);
        }

        Station stationAt(int number) {
            boolean isThere = number >= 0 && number < stationCount && number < stations.length;
            return isThere ? stations[number] : null;
        }

        Member memberAt(int number) {
            boolean isThere = number >= 0 && number < memberCount && number < members.length;
            return isThere ? members[number] : null;
        }

        int found(Station station) {
            int number = stationCount;
            if (number >= 0 && number < stations.length) {
                stations[number] = station;
                stationCount++;
            }
            return number;
        }

        int admit(int turns, int aerial) {
            int number = memberCount;
            memberCount++;
            Member member = memberAt(number);
            if (member != null) {
                member.begin(turns, aerial);
            }
            return number;
        }

        // ---- hearing

        Hearing hearingOf(CrystalSet set, int atHour) {
            hearing.clear();
            for (int number = 0; number < stationCount; number++) {
                Station station = stationAt(number);
                if (station != null && station.isOnAir(atHour)) {
                    hearing.offer(number, set.strengthOf(station, atHour));
                }
            }
            return hearing;
        }

        int bestDial(CrystalSet trialSet, int station) {
            int best = NONE;
            int strongest = 0;
            for (int dial = 0; dial <= MOST_DIAL; dial++) {
                trialSet.tune(trialSet.turns, dial);
                Hearing heard = hearingOf(trialSet, hour);
                if (heard.verdict() == station && heard.strength > strongest) {
                    strongest = heard.strength;
                    best = dial;
                }
            }
            return best;
        }

        boolean keepsApart(CrystalSet trialSet, int turns, Station one, Station other) {
            boolean hearsOne = false;
            boolean hearsOther = false;
            for (int dial = 0; dial <= MOST_DIAL && !(hearsOne && hearsOther); dial++) {
                trialSet.tune(turns, dial);
                hearing.clear();
                hearing.offer(0, trialSet.strengthOf(one, hour));
                hearing.offer(1, trialSet.strengthOf(other, hour));
                int heard = hearing.verdict();
                hearsOne = hearsOne || heard == 0;
                hearsOther = hearsOther || heard == 1;
            }
            return hearsOne && hearsOther;
        }

        // ---- hours

        int passHours(int hours) {
            int written = 0;
            for (int gone = 0; gone < hours; gone++) {
                written += writeLines();
                wearCrystals();
                answerLetters();
                hour++;
            }
            return written;
        }

        private int writeLines() {
            int written = 0;
            for (int number = 0; number < memberCount; number++) {
                Member member = memberAt(number);
                if (member != null && member.listens && !member.lines.isFull() && writeLine(member)) {
                    written++;
                }
            }
            return written;
        }

        private boolean writeLine(Member member) {
            Hearing heard = hearingOf(member.set, hour);
            int station = heard.verdict();
            if (station < 0 || member.hasLineOf(station, hour / DAY)) {
                return false;
            }
            member.addLine(hour, station, heard.strength);
            return true;
        }

        private void wearCrystals() {
            if (hour % 6 != 0) {
                return;
            }
            for (int number = 0; number < memberCount; number++) {
                Member member = memberAt(number);
                if (member != null) {
                    member.wearCrystal();
                }
            }
        }

        private void answerLetters() {
            int kept = 0;
            for (int letter = 0; letter < letters.size; letter++) {
                if (letters.at(letter, LETTER_ANSWERED) > hour) {
                    letters.copyRow(letter, kept);
                    kept++;
                } else {
                    answer(letters.at(letter, LETTER_MEMBER), letters.at(letter, LETTER_LINE));
                }
            }
            letters.size = kept;
        }

        private void answer(int number, int line) {
            Member member = memberAt(number);
            if (member != null) {
                member.takeAnswer(line);
            }
        }

        // ---- letters

        boolean hasLetterOf(int member, int line) {
            for (int letter = 0; letter < letters.size; letter++) {
                if (letters.at(letter, LETTER_MEMBER) == member && letters.at(letter, LETTER_LINE) == line) {
                    return true;
                }
            }
            return false;
        }

        int send(int number, int line) {
            Member member = memberAt(number);
            Station station = member == null ? null : stationAt(member.lines.at(line, LINE_STATION));
            int answered = station == null ? hour : hour + station.daysOfMail() * DAY;
            int letter = letters.size;
            letters.put(letter, LETTER_MEMBER, number);
            letters.put(letter, LETTER_LINE, line);
            letters.put(letter, LETTER_ANSWERED, answered);
            letters.size++;
            return answered;
        }

        // ---- who leads

        private int scoreOf(Member member) {
            int cards = member.cards();
            int score = 0;
            for (int number = 0; number < stationCount; number++) {
                Station station = stationAt(number);
                if (station != null && (cards & (1 << number)) != 0) {
                    score += station.far;
                }
            }
            return score;
        }

        int memberAtPlace(int place) {
            for (int number = 0; number < memberCount; number++) {
                if (leadersOf(number) == place) {
                    return number;
                }
            }
            return NONE;
        }

        private int leadersOf(int number) {
            int leaders = 0;
            for (int other = 0; other < memberCount; other++) {
                if (other != number && leads(other, number)) {
                    leaders++;
                }
            }
            return leaders;
        }

        private boolean leads(int one, int other) {
            Member first = memberAt(one);
            Member second = memberAt(other);
            if (first == null || second == null) {
                return false;
            }
            int byScore = Integer.compare(scoreOf(first), scoreOf(second));
            if (byScore != 0) {
                return byScore > 0;
            }
            int byLines = Integer.compare(first.lines.size, second.lines.size);
            return byLines != 0 ? byLines > 0 : one < other;
        }

        // ---- telling

        int tellStation(int number, int what) {
            Station station = stationAt(number);
            if (station == null) {
                return 0;
            }
            switch (what) {
                case 0: return station.frequency;
                case 1: return station.power;
                case 2: return station.far;
                case 3: return station.isOnAir(hour) ? 1 : 0;
                case 4: return station.fading(hour);
                default: return membersWithCardOf(number);
            }
        }

        private int membersWithCardOf(int station) {
            int owners = 0;
            for (int number = 0; number < memberCount; number++) {
                Member member = memberAt(number);
                if (member != null && (member.cards() & (1 << station)) != 0) {
                    owners++;
                }
            }
            return owners;
        }

        int tellMember(int number, int what) {
            Member member = memberAt(number);
            if (member == null) {
                return 0;
            }
            switch (what) {
                case 0: return member.set.turns;
                case 1: return member.set.dial;
                case 2: return member.set.aerial;
                case 3: return member.set.crystal;
                case 4: return member.listens ? 1 : 0;
                case 5: return member.set.tuned;
                case 6: return member.set.width;
                case 7: return member.lines.size;
                case 8: return Integer.bitCount(member.cards());
                default: return scoreOf(member);
            }
        }

        int tellCount(int what) {
            switch (what) {
                case 0: return hour;
                case 1: return stationCount;
                case 2: return stationsOnAir();
                case 3: return memberCount;
                case 4: return listeners();
                case 5: return allLines();
                case 6: return confirmedLines();
                default: return letters.size;
            }
        }

        private int stationsOnAir() {
            int onAir = 0;
            for (int number = 0; number < stationCount; number++) {
                Station station = stationAt(number);
                if (station != null && station.isOnAir(hour)) {
                    onAir++;
                }
            }
            return onAir;
        }

        private int listeners() {
            int listeners = 0;
            for (int number = 0; number < memberCount; number++) {
                Member member = memberAt(number);
                if (member != null && member.listens) {
                    listeners++;
                }
            }
            return listeners;
        }

        int allLines() {
            int lines = 0;
            for (int number = 0; number < memberCount; number++) {
                Member member = memberAt(number);
                lines += member == null ? 0 : member.lines.size;
            }
            return lines;
        }

        int confirmedLines() {
            return sumOfLogs(LINE_CONFIRMED);
        }

        int allStrengths() {
            return sumOfLogs(LINE_STRENGTH);
        }

        private int sumOfLogs(int column) {
            int sum = 0;
            for (int number = 0; number < memberCount; number++) {
                Member member = memberAt(number);
                sum += member == null ? 0 : member.lines.sum(column);
            }
            return sum;
        }

        // ---- the checksum

        long checksum() {
            long sum = 701;
            for (int what = 0; what < COUNTS; what++) {
                sum = sum * 31 + tellCount(what);
            }
            for (int number = 0; number < stationCount; number++) {
                for (int what = 0; what < STATION_VALUES; what++) {
                    sum = sum * 31 + tellStation(number, what);
                }
            }
            for (int number = 0; number < memberCount; number++) {
                sum = withMember(sum, number);
            }
            return withRows(sum, letters);
        }

        private long withMember(long before, int number) {
            long sum = before;
            for (int what = 0; what < MEMBER_VALUES; what++) {
                sum = sum * 31 + tellMember(number, what);
            }
            Member member = memberAt(number);
            return member == null ? sum : withRows(sum, member.lines);
        }

        private static long withRows(long before, Table table) {
            long sum = before;
            for (int row = 0; row < table.size; row++) {
                for (int column = 0; column < table.columns; column++) {
                    sum = sum * 31 + table.at(row, column);
                }
            }
            return sum;
        }
    }
}
