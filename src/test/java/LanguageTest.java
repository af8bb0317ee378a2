import java.io.IOException;
import java.lang.reflect.Constructor;
import java.lang.reflect.Field;
import java.lang.reflect.Method;
import java.lang.reflect.Modifier;
import java.nio.file.Files;
import java.nio.file.Path;
import java.util.Set;
import java.util.TreeSet;
import java.util.regex.Matcher;
import java.util.regex.Pattern;

/** The face of the document, and those rules of LANGUAGE.md that the text or reflection shows. */
public final class LanguageTest {
    private static final Path SOURCE = Path.of("src/main/java/CrystalClub.java");
    private static final Set<String> FACE = Set.of(
        "int addStation(int,int,int,int,int,int)", "int join(int,int)", "int turn(int,int)",
        "int wind(int,int)", "boolean listen(int,boolean)", "int renew(int)", "int station(int,int)",
        "int member(int,int)", "int strength(int,int)", "int hears(int)", "int log(int,int,int)",
        "int write(int,int)", "int pass(int)", "int count(int)", "int rank(int)", "int dial(int,int)",
        "int next(int,int)", "int apart(int,int,int)", "int foresee(int,int)", "double mean()",
        "long digest()");
    private static final String[] FORBIDDEN = {
        "\\bpackage\\b", "\\bimport\\b", "\\btry\\b", "\\bcatch\\b", "\\bfinally\\b", "->", "::",
        "\\bsynchronized\\b", "\\bassert\\b", "\\bstatic\\s*\\{", "\\bSystem\\.(?!arraycopy)", "\\bRandom\\b",
        "\\bThread\\b", "Exact\\(", "\\bwhile\\s*\\(\\s*true", "\\bfor\\s*\\(\\s*;", "\\.equals\\(",
        "\\.hashCode\\(", "\\.toString\\(", "[^\\x00-\\x7f]"};

    public static void main(String[] args) throws IOException {
        String text = withoutComments(Files.readString(SOURCE));
        theFaceIsThatOfTheDocument();
        noOtherMemberIsSeen();
        noHelperBearsAPublicName();
        nothingForbiddenStands(text);
        onlyNamedExceptionsAreThrown(text);
        classesAreFewAndSmall();
        methodsAreShort(text);
        Checks.end("LanguageTest");
    }

    private static String withoutComments(String text) {
        return text.replaceAll("(?s)/\\*.*?\\*/", "").replaceAll("//[^\n]*", "").replaceAll("\"[^\"]*\"", "\"\"");
    }

    private static void theFaceIsThatOfTheDocument() {
        Set<String> found = new TreeSet<>();
        for (Method method : CrystalClub.class.getDeclaredMethods()) {
            if (Modifier.isPublic(method.getModifiers())) {
                found.add(face(method));
            }
        }
        Checks.note(found.equals(FACE), "the face is " + found);
        Constructor<?>[] made = CrystalClub.class.getDeclaredConstructors();
        Checks.note(made.length == 1 && made[0].getParameterCount() == 0
            && Modifier.isPublic(made[0].getModifiers()), "there is not just the one public constructor");
        int kind = CrystalClub.class.getModifiers();
        Checks.note(Modifier.isPublic(kind) && Modifier.isFinal(kind), "the class is not public and final");
    }

    private static String face(Method method) {
        StringBuilder told = new StringBuilder(method.getReturnType() + " " + method.getName() + "(");
        for (Class<?> type : method.getParameterTypes()) {
            told.append(told.charAt(told.length() - 1) == '(' ? "" : ",").append(type);
        }
        return told.append(")").toString();
    }

    private static void noOtherMemberIsSeen() {
        for (Method method : CrystalClub.class.getDeclaredMethods()) {
            int kind = method.getModifiers();
            Checks.note(Modifier.isPublic(kind) || Modifier.isPrivate(kind), method + " is neither face nor private");
        }
        for (Field field : CrystalClub.class.getDeclaredFields()) {
            Checks.note(Modifier.isPrivate(field.getModifiers()), field + " is not private");
        }
        for (Class<?> inside : CrystalClub.class.getDeclaredClasses()) {
            int kind = inside.getModifiers();
            Checks.note(Modifier.isStatic(kind) && !Modifier.isPublic(kind) && !Modifier.isProtected(kind),
                inside + " is seen, or not static");
        }
    }

    private static void noHelperBearsAPublicName() {
        Set<String> names = new TreeSet<>();
        for (String method : FACE) {
            names.add(method.substring(method.indexOf(' ') + 1, method.indexOf('(')));
        }
        for (Method method : CrystalClub.class.getDeclaredMethods()) {
            boolean isHelper = !Modifier.isPublic(method.getModifiers());
            Checks.note(!isHelper || !names.contains(method.getName()), method + " bears a public name");
        }
        for (Class<?> inside : CrystalClub.class.getDeclaredClasses()) {
            for (Method method : inside.getDeclaredMethods()) {
                Checks.note(!names.contains(method.getName()), method + " bears a public name");
            }
        }
    }

    private static void nothingForbiddenStands(String text) {
        for (String forbidden : FORBIDDEN) {
            Matcher matcher = Pattern.compile(forbidden).matcher(text);
            Checks.note(!matcher.find(), "there stands what fits " + forbidden);
        }
    }

    private static void onlyNamedExceptionsAreThrown(String text) {
        String named = "new (IllegalArgument|IllegalState|IndexOutOfBounds)Exception\\(\"\"\\);";
        Matcher all = Pattern.compile("\\bthrow\\b\\s*([^;]*;)").matcher(text);
        while (all.find()) {
            Checks.note(all.group(1).matches(named), "there is thrown " + all.group(1));
        }
    }

    private static void classesAreFewAndSmall() {
        Class<?>[] inside = CrystalClub.class.getDeclaredClasses();
        Checks.note(inside.length <= 11, "there are " + inside.length + " classes inside");
        fieldsAreFew(CrystalClub.class);
        for (Class<?> one : inside) {
            fieldsAreFew(one);
        }
    }

    private static void fieldsAreFew(Class<?> one) {
        int fields = 0;
        for (Field field : one.getDeclaredFields()) {
            boolean isStatic = Modifier.isStatic(field.getModifiers());
            Checks.note(!isStatic || Modifier.isFinal(field.getModifiers()), field + " can change");
            fields += isStatic ? 0 : 1;
        }
        Checks.note(fields <= 20, one + " has " + fields + " fields");
        for (Method method : one.getDeclaredMethods()) {
            Checks.note(method.getParameterCount() <= 7, method + " takes too many parameters");
        }
    }

    /** A method begins at its head and ends at the closing brace below the same column. */
    private static void methodsAreShort(String text) {
        String[] lines = text.split("\n");
        for (int i = 0; i < lines.length; i++) {
            Matcher head = Pattern.compile("^(\\s+)[\\w<>\\[\\] ]+\\([^;]*$").matcher(lines[i]);
            if (!head.find() || lines[i].trim().matches("(if|for|while|switch|\\}|return).*")) {
                continue;
            }
            int end = i;
            while (end < lines.length && !lines[end].equals(head.group(1) + "}")) {
                end++;
            }
            Checks.note(end - i < 60, lines[i].trim() + " is " + (end - i + 1) + " lines long");
        }
    }
}
