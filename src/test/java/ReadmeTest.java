import java.io.IOException;
import java.lang.reflect.Method;
import java.lang.reflect.Modifier;
import java.nio.file.Files;
import java.nio.file.Path;
import java.util.ArrayList;
import java.util.List;
import java.util.Set;
import java.util.TreeSet;
import java.util.regex.Matcher;
import java.util.regex.Pattern;
import java.util.stream.Collectors;
import java.util.stream.Stream;

/** README.md tells answers, calls and tests as they are. */
public final class ReadmeTest {
    private static final Path TESTS = Path.of("src/test/java");

    private static final List<String> example = new ArrayList<>();

    public static void main(String[] args) throws IOException {
        String page = Files.readString(Path.of("README.md"));
        readExample(page);
        theExampleAnswersSo();
        everyCallIsTold(page);
        everyTestIsTold(page);
        Checks.end("ReadmeTest");
    }

    private static void readExample(String page) {
        Matcher block = Pattern.compile("```java\n(.*?)```", Pattern.DOTALL).matcher(page);
        Checks.note(block.find(), "README.md has no example");
        example.addAll(List.of(block.group(1).split("\n")));
    }

    private static void theExampleAnswersSo() {
        nextLine("new CrystalClub();", "");
        CrystalClub club = new CrystalClub();
        int station = club.addStation(1000, 60, 5, 0, 24, 0);
        nextLine("club.addStation(1000, 60, 5, 0, 24, 0);", "" + station);
        int member = club.join(80, 20);
        nextLine("club.join(80, 20);", "" + member);
        int place = club.dial(member, station);
        nextLine("club.dial(member, station);", "" + place);
        nextLine("club.turn(member, place);", "" + club.turn(member, place));
        nextLine("club.hears(member);", "" + club.hears(member));
        nextLine("club.foresee(24, 0);", "" + club.foresee(24, 0));
        nextLine("club.pass(24);", "" + club.pass(24));
        nextLine("club.log(member, 0, 2);", "" + club.log(member, 0, 2));
        nextLine("club.write(member, 0);", "" + club.write(member, 0));
        nextLine("club.pass(49);", "" + club.pass(49));
        nextLine("club.member(member, 8);", "" + club.member(member, 8));
        nextLine("club.member(member, 9);", "" + club.member(member, 9));
        nextLine("club.rank(0);", "" + club.rank(0));
        nextLine("club.mean();", "" + club.mean());
        nextLine("club.renew(member);", "" + club.renew(member));
        Checks.note(example.isEmpty(), "the example of README.md goes on: " + example);
    }

    /** The next line of the example is this call, with this answer behind it. */
    private static void nextLine(String call, String answer) {
        String line = example.isEmpty() ? "" : example.remove(0);
        boolean isSo = line.contains(call) && (answer.isEmpty() || line.contains("// " + answer + ":"));
        Checks.note(isSo, call + " answers " + answer + ", but README.md says: " + line);
    }

    private static void everyCallIsTold(String page) {
        Set<String> told = firstCells(page, "`(\\w+)\\([\\w, ]*\\)`");
        Set<String> there = new TreeSet<>();
        for (Method method : CrystalClub.class.getDeclaredMethods()) {
            if (Modifier.isPublic(method.getModifiers())) {
                there.add(method.getName());
            }
        }
        Checks.note(told.equals(there), "README.md tells the calls " + told + ", there are " + there);
    }

    private static void everyTestIsTold(String page) throws IOException {
        Set<String> told = firstCells(page, "`(\\w+Test)`");
        try (Stream<Path> files = Files.list(TESTS)) {
            Set<String> there = files.map(file -> file.getFileName().toString()).filter(name -> name.endsWith(".java"))
                .map(name -> name.replace(".java", "")).collect(Collectors.toCollection(TreeSet::new));
            Checks.note(told.equals(there), "README.md tells the tests " + told + ", there are " + there);
        }
    }

    private static Set<String> firstCells(String page, String pattern) {
        Matcher cells = Pattern.compile("(?m)^\\| " + pattern + " \\|").matcher(page);
        Set<String> found = new TreeSet<>();
        while (cells.find()) {
            found.add(cells.group(1));
        }
        return found;
    }
}
