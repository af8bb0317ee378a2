import java.math.BigInteger;
import java.util.ArrayList;
import java.util.List;

/** What digest() has to answer, from what the other calls tell. */
final class Digests {
    private Digests() {
    }

    /** Of each letter on its way the member, the line, and the hour in which it is answered. */
    static long due(CrystalClub club, int[]... letters) {
        List<Integer> all = allButLetters(club);
        for (int[] letter : letters) {
            for (int x : letter) {
                all.add(x);
            }
        }
        return checksum(all);
    }

    private static List<Integer> allButLetters(CrystalClub club) {
        List<Integer> all = new ArrayList<>();
        for (int what = 0; what < 8; what++) {
            all.add(club.count(what));
        }
        for (int station = 0; station < club.count(1); station++) {
            for (int what = 0; what < 6; what++) {
                all.add(club.station(station, what));
            }
        }
        for (int member = 0; member < club.count(3); member++) {
            for (int what = 0; what < 10; what++) {
                all.add(club.member(member, what));
            }
            for (int line = 0; line < club.member(member, 7); line++) {
                for (int what = 0; what < 4; what++) {
                    all.add(club.log(member, line, what));
                }
            }
        }
        return all;
    }

    /** Without a wrap on the way: of the whole number the last 64 bits are told at the end. */
    private static long checksum(List<Integer> all) {
        BigInteger d = BigInteger.valueOf(701);
        for (int x : all) {
            d = d.multiply(BigInteger.valueOf(31)).add(BigInteger.valueOf(x));
        }
        return d.longValue();
    }
}
