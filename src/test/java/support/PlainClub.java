import java.util.ArrayList;
import java.util.List;

/** The document once more, word by word and without regard to cost, to compare long runs with. */
final class PlainClub {
    static final class Line {
        int hour;
        int station;
        int strength;
        boolean confirmed;
    }

    static final class Letter {
        int member;
        int line;
        int answered;
    }

    static final class Set {
        int turns;
        int dial;
        int aerial;
        int crystal = 9;
        boolean listens = true;
        List<Line> log = new ArrayList<>();
    }

    private final List<int[]> stations = new ArrayList<>();
    private final List<Set> members = new ArrayList<>();
    private List<Letter> letters = new ArrayList<>();
    private int hour;

    private static void argument(boolean isRight) {
        if (!isRight) {
            throw new IllegalArgumentException();
        }
    }

    private static void index(int number, int bound) {
        if (number < 0 || number >= bound) {
            throw new IndexOutOfBoundsException();
        }
    }

    private static void state(boolean isRight) {
        if (!isRight) {
            throw new IllegalStateException();
        }
    }

    private static boolean in(int number, int least, int most) {
        return least <= number && number <= most;
    }

    int addStation(int frequency, int power, int far, int from, int hours, int phase) {
        argument(in(frequency, 300, 3000) && in(power, 1, 100) && in(far, 1, 50));
        argument(in(from, 0, 23) && in(hours, 1, 24) && in(phase, 0, 11));
        state(stations.size() < 12);
        stations.add(new int[] {frequency, power, far, from, hours, phase});
        return stations.size() - 1;
    }

    int join(int turns, int aerial) {
        argument(in(turns, 20, 200) && in(aerial, 1, 60));
        state(members.size() < 8);
        Set set = new Set();
        set.turns = turns;
        set.aerial = aerial;
        members.add(set);
        return members.size() - 1;
    }

    private Set the(int member) {
        index(member, members.size());
        return members.get(member);
    }

    int turn(int member, int dial) {
        Set set = the(member);
        argument(in(dial, 0, 100));
        int was = set.dial;
        set.dial = dial;
        return was;
    }

    int wind(int member, int turns) {
        Set set = the(member);
        argument(in(turns, 20, 200));
        int was = set.turns;
        set.turns = turns;
        return was;
    }

    boolean listen(int member, boolean listens) {
        Set set = the(member);
        boolean was = set.listens;
        set.listens = listens;
        return was;
    }

    int renew(int member) {
        Set set = the(member);
        int was = set.crystal;
        set.crystal = 9;
        return was;
    }

    private boolean onAir(int station, int atHour) {
        int[] s = stations.get(station);
        for (int i = 0; i < s[4]; i++) {
            if ((s[3] + i) % 24 == atHour % 24) {
                return true;
            }
        }
        return false;
    }

    private int fading(int station, int atHour) {
        return 4 + Math.abs(6 - (atHour + stations.get(station)[5]) % 12);
    }

    private static int tuned(Set set) {
        return 100000 / (set.turns + set.dial);
    }

    private static int width(Set set) {
        return Math.max(10, 80 - set.turns / 3);
    }

    private int strengthOnAir(Set set, int station, int atHour) {
        int[] s = stations.get(station);
        int difference = Math.abs(s[0] - tuned(set));
        int width = width(set);
        if (difference >= width) {
            return 0;
        }
        int strength = s[1] * fading(station, atHour) * set.aerial / (10 * s[2]);
        strength = strength * (width - difference) / width;
        return strength * (1 + set.crystal) / 10;
    }

    private int hearing(Set set, List<Integer> onAir, int atHour) {
        int best = -1;
        int reached = 0;
        for (int s : onAir) {
            int strength = strengthOnAir(set, s, atHour);
            reached += strength > 0 ? 1 : 0;
            if (strength > 0 && (best < 0 || strength > strengthOnAir(set, best, atHour))) {
                best = s;
            }
        }
        if (best < 0) {
            return -1;
        }
        int greatest = strengthOnAir(set, best, atHour);
        boolean isClear = greatest >= 5;
        for (int s : onAir) {
            isClear &= s == best || 2 * strengthOnAir(set, s, atHour) <= greatest;
        }
        return isClear ? best : reached > 1 ? -2 : -1;
    }

    private int hearing(Set set, int atHour) {
        List<Integer> onAir = new ArrayList<>();
        for (int s = 0; s < stations.size(); s++) {
            if (onAir(s, atHour)) {
                onAir.add(s);
            }
        }
        return hearing(set, onAir, atHour);
    }

    private boolean hasCard(Set set, int station) {
        for (Line line : set.log) {
            if (line.confirmed && line.station == station) {
                return true;
            }
        }
        return false;
    }

    int station(int station, int what) {
        index(station, stations.size());
        index(what, 6);
        if (what < 3) {
            return stations.get(station)[what];
        }
        if (what == 3) {
            return onAir(station, hour) ? 1 : 0;
        }
        if (what == 4) {
            return fading(station, hour);
        }
        return (int) members.stream().filter(m -> hasCard(m, station)).count();
    }

    private int cards(Set set) {
        int cards = 0;
        for (int s = 0; s < stations.size(); s++) {
            cards += hasCard(set, s) ? 1 : 0;
        }
        return cards;
    }

    private int score(Set set) {
        int score = 0;
        for (int s = 0; s < stations.size(); s++) {
            score += hasCard(set, s) ? stations.get(s)[2] : 0;
        }
        return score;
    }

    int member(int member, int what) {
        Set set = the(member);
        index(what, 10);
        int[] all = {set.turns, set.dial, set.aerial, set.crystal, set.listens ? 1 : 0,
            tuned(set), width(set), set.log.size(), cards(set), score(set)};
        return all[what];
    }

    int strength(int member, int station) {
        Set set = the(member);
        index(station, stations.size());
        return onAir(station, hour) ? strengthOnAir(set, station, hour) : 0;
    }

    int hears(int member) {
        return hearing(the(member), hour);
    }

    private Line line(int member, int line) {
        Set set = the(member);
        index(line, set.log.size());
        return set.log.get(line);
    }

    int log(int member, int line, int what) {
        Line l = line(member, line);
        index(what, 4);
        return new int[] {l.hour, l.station, l.strength, l.confirmed ? 1 : 0}[what];
    }

    int write(int member, int line) {
        Line l = line(member, line);
        state(!l.confirmed);
        for (Letter letter : letters) {
            state(letter.member != member || letter.line != line);
        }
        state(letters.size() < 30);
        Letter letter = new Letter();
        letter.member = member;
        letter.line = line;
        letter.answered = hour + 24 * (2 + stations.get(l.station)[2] / 10);
        letters.add(letter);
        return letter.answered;
    }

    private int oneHour() {
        int written = 0;
        for (Set set : members) {
            int heard = hearing(set, hour);
            if (!set.listens || heard < 0 || set.log.size() >= 40) {
                continue;
            }
            boolean hasOne = false;
            for (Line line : set.log) {
                hasOne |= line.station == heard && line.hour / 24 == hour / 24;
            }
            if (!hasOne) {
                Line line = new Line();
                line.hour = hour;
                line.station = heard;
                line.strength = strengthOnAir(set, heard, hour);
                set.log.add(line);
                written++;
            }
        }
        for (Set set : members) {
            if (hour % 6 == 0 && set.listens) {
                set.crystal = Math.max(0, set.crystal - 1);
            }
        }
        List<Letter> left = new ArrayList<>();
        for (Letter letter : letters) {
            Line line = members.get(letter.member).log.get(letter.line);
            if (letter.answered > hour) {
                left.add(letter);
            } else if (line.strength >= 8) {
                line.confirmed = true;
            }
        }
        letters = left;
        hour++;
        return written;
    }

    int pass(int hours) {
        argument(in(hours, 1, 240));
        int written = 0;
        for (int i = 0; i < hours; i++) {
            written += oneHour();
        }
        return written;
    }

    int count(int what) {
        index(what, 8);
        int onAir = 0;
        int listening = 0;
        int lines = 0;
        int confirmed = 0;
        for (int s = 0; s < stations.size(); s++) {
            onAir += onAir(s, hour) ? 1 : 0;
        }
        for (Set set : members) {
            listening += set.listens ? 1 : 0;
            lines += set.log.size();
            for (Line line : set.log) {
                confirmed += line.confirmed ? 1 : 0;
            }
        }
        int[] all = {hour, stations.size(), onAir, members.size(), listening, lines, confirmed, letters.size()};
        return all[what];
    }

    int rank(int place) {
        index(place, members.size());
        List<Integer> order = new ArrayList<>();
        for (int i = 0; i < members.size(); i++) {
            order.add(i);
        }
        order.sort((a, b) -> {
            Set one = members.get(a);
            Set other = members.get(b);
            if (score(one) != score(other)) {
                return score(other) - score(one);
            }
            return one.log.size() != other.log.size() ? other.log.size() - one.log.size() : a - b;
        });
        return order.get(place);
    }

    int dial(int member, int station) {
        Set set = the(member);
        index(station, stations.size());
        int was = set.dial;
        int place = -1;
        int greatest = -1;
        for (int dial = 0; dial <= 100; dial++) {
            set.dial = dial;
            if (hearing(set, hour) == station && strengthOnAir(set, station, hour) > greatest) {
                greatest = strengthOnAir(set, station, hour);
                place = dial;
            }
        }
        set.dial = was;
        return place;
    }

    int next(int member, int station) {
        Set set = the(member);
        index(station, stations.size());
        for (int in = 0; in <= 96; in++) {
            if (hearing(set, hour + in) == station) {
                return in;
            }
        }
        return -1;
    }

    int apart(int member, int one, int other) {
        Set set = the(member);
        index(one, stations.size());
        index(other, stations.size());
        argument(one != other);
        int turns = set.turns;
        int dial = set.dial;
        List<Integer> both = List.of(Math.min(one, other), Math.max(one, other));
        int answer = -1;
        for (set.turns = 20; set.turns <= 200 && answer < 0; set.turns++) {
            boolean first = false;
            boolean second = false;
            for (set.dial = 0; set.dial <= 100; set.dial++) {
                int heard = hearing(set, both, hour);
                first |= heard == one;
                second |= heard == other;
            }
            answer = first && second ? set.turns : -1;
        }
        set.turns = turns;
        set.dial = dial;
        return answer;
    }

    double mean() {
        double sum = 0;
        int lines = 0;
        for (Set set : members) {
            for (Line line : set.log) {
                sum += line.strength;
                lines++;
            }
        }
        return lines == 0 ? 0 : sum / lines;
    }

    /** What foresee() tells: both answers, found on a copy. */
    int foresee(int hours, int what) {
        argument(in(hours, 1, 240));
        index(what, 2);
        PlainClub copy = copy();
        int before = copy.count(6);
        int written = copy.pass(hours);
        return what == 0 ? written : copy.count(6) - before;
    }

    private PlainClub copy() {
        PlainClub copy = new PlainClub();
        copy.hour = hour;
        copy.stations.addAll(stations);
        copy.letters.addAll(letters);
        for (Set set : members) {
            Set s = new Set();
            s.turns = set.turns;
            s.dial = set.dial;
            s.aerial = set.aerial;
            s.crystal = set.crystal;
            s.listens = set.listens;
            for (Line line : set.log) {
                Line l = new Line();
                l.hour = line.hour;
                l.station = line.station;
                l.strength = line.strength;
                l.confirmed = line.confirmed;
                s.log.add(l);
            }
            copy.members.add(s);
        }
        return copy;
    }

    long digest() {
        List<Integer> all = new ArrayList<>();
        for (int what = 0; what < 8; what++) {
            all.add(count(what));
        }
        for (int s = 0; s < stations.size(); s++) {
            for (int what = 0; what < 6; what++) {
                all.add(station(s, what));
            }
        }
        for (int m = 0; m < members.size(); m++) {
            for (int what = 0; what < 10; what++) {
                all.add(member(m, what));
            }
            for (int l = 0; l < members.get(m).log.size(); l++) {
                for (int what = 0; what < 4; what++) {
                    all.add(log(m, l, what));
                }
            }
        }
        for (Letter letter : letters) {
            all.add(letter.member);
            all.add(letter.line);
            all.add(letter.answered);
        }
        long d = 701;
        for (int x : all) {
            d = d * 31 + x;
        }
        return d;
    }
}
