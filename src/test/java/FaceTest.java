import java.io.IOException;
import java.lang.reflect.Field;
import java.lang.reflect.Member;
import java.lang.reflect.Method;
import java.lang.reflect.Modifier;
import java.nio.file.Files;
import java.nio.file.Path;
import java.util.Set;
import java.util.TreeSet;
import java.util.regex.Matcher;
import java.util.regex.Pattern;

/** The document's face, and the rules of LANGUAGE.md that a reader of the source or of the class can see. */
public final class FaceTest {
    private static final Path SOURCE = Path.of("src", "main", "java", "SpikeTown.java");
    private static final int LONGEST_METHOD = 60, MOST_CLASSES = 12, MOST_FIELDS = 20, MOST_PARAMETERS = 7;
    private static final Set<String> FACE = Set.of(
        "int write(int)", "int wipe()", "int fault()", "int town()", "int about(int)", "int slip(int,int)",
        "int spike(int,int)", "int thing(int,int)", "int put(int,int)", "int take(int)", "int tear(int)",
        "int forge(int)", "int night()", "int audit(int)", "int undo()", "int later(int)", "int lasts(int)",
        "int wants(int)", "int breaks(int)", "int judge(int,long)", "int share(int,boolean)",
        "int swear(int,int)", "int unswear()", "int may(int)", "int rests(int,int,int)",
        "int fires(int,int,boolean)", "long seed(long)", "int years(int)", "int keep(int)", "int again(int)");

    public static void main(String[] args) throws IOException {
        constants();
        members();
        classes();
        String source = Files.readString(SOURCE);
        String code = source.replaceAll("(?s)/\\*.*?\\*/", "").replaceAll("//[^\n]*", "");
        words(code);
        methodLengths(code);
        Check.end();
    }

    private static void constants() {
        Check.due("UNKNOWN", SpikeTown.UNKNOWN, -1);
        Check.due("BAD", SpikeTown.BAD, -2);
        Check.due("LATE", SpikeTown.LATE, -3);
        Check.due("FULL", SpikeTown.FULL, -4);
        Check.due("NONE", SpikeTown.NONE, -9);
    }

    private static void members() {
        Class<SpikeTown> town = SpikeTown.class;
        Check.holds("the class is public and final",
            Modifier.isPublic(town.getModifiers()) && Modifier.isFinal(town.getModifiers()));
        Check.due("constructors", town.getDeclaredConstructors().length, 1);
        Check.due("public constructors", town.getConstructors().length, 1);
        Set<String> names = new TreeSet<>();
        Set<String> face = new TreeSet<>();
        for (Method method : town.getDeclaredMethods()) {
            Check.holds(method + " is public or private", isOpenOrShut(method));
            if (Modifier.isPublic(method.getModifiers())) {
                face.add(signatureOf(method));
                names.add(method.getName());
            }
        }
        Check.holds("the face is " + face, face.equals(FACE));
        for (Method method : town.getDeclaredMethods()) {
            Check.holds(method + " has no public one's name",
                Modifier.isPublic(method.getModifiers()) || !names.contains(method.getName()));
        }
        for (Field field : town.getDeclaredFields()) {
            boolean told = Set.of("UNKNOWN", "BAD", "LATE", "FULL", "NONE").contains(field.getName());
            Check.holds(field + " is public if the document tells it",
                told ? Modifier.isPublic(field.getModifiers()) : Modifier.isPrivate(field.getModifiers()));
        }
        for (Class<?> inner : town.getDeclaredClasses()) {
            for (Method method : inner.getDeclaredMethods()) {
                Check.holds(method + " has no public one's name", !names.contains(method.getName()));
            }
        }
    }

    private static boolean isOpenOrShut(Member member) {
        return Modifier.isPublic(member.getModifiers()) || Modifier.isPrivate(member.getModifiers());
    }

    private static String signatureOf(Method method) {
        StringBuilder text = new StringBuilder();
        text.append(method.getReturnType().getSimpleName()).append(' ').append(method.getName()).append('(');
        String comma = "";
        for (Class<?> type : method.getParameterTypes()) {
            text.append(comma).append(type.getSimpleName());
            comma = ",";
        }
        return text.append(')').toString();
    }

    private static void classes() {
        Class<?>[] inside = SpikeTown.class.getDeclaredClasses();
        Check.holds("classes", inside.length < MOST_CLASSES);
        fieldsAndParameters(SpikeTown.class);
        for (Class<?> one : inside) {
            Check.holds(one + " is static", Modifier.isStatic(one.getModifiers()));
            Check.holds(one + " is not open", !Modifier.isPublic(one.getModifiers()));
            fieldsAndParameters(one);
        }
    }

    private static void fieldsAndParameters(Class<?> one) {
        int fields = 0;
        for (Field field : one.getDeclaredFields()) {
            if (Modifier.isStatic(field.getModifiers())) {
                Check.holds(field + " is final", Modifier.isFinal(field.getModifiers()));
            } else {
                fields++;
            }
        }
        Check.holds("fields of " + one, fields <= MOST_FIELDS);
        for (Method method : one.getDeclaredMethods()) {
            Check.holds("parameters of " + method, method.getParameterCount() <= MOST_PARAMETERS);
        }
    }

    private static void words(String code) {
        for (String word : new String[] {"throw", "throws", "try", "catch", "synchronized", "assert", "import",
            "package", "instanceof", "protected", "System", "Object", "hashCode", "equals", "toString"}) {
            Check.holds("no " + word, !Pattern.compile("\\b" + word + "\\b").matcher(code).find());
        }
        Check.holds("no lambda", !code.contains("->"));
        Check.holds("no method reference", !code.contains("::"));
        Check.holds("no text", !code.contains("\""));
        Check.holds("no object in a method", !Pattern.compile("(return|\\(|^\\s+\\w+ =) new ").matcher(code).find());
        Check.holds("signs are ASCII", code.chars().allMatch(sign -> sign < 128));
    }

    private static void methodLengths(String code) {
        Pattern start = Pattern.compile("^( +)(?:[a-z]+ )*[A-Za-z\\[\\]]+ ?\\w*\\([^;]*\\) \\{$");
        String[] lines = code.split("\n");
        int methods = 0;
        for (int i = 0; i < lines.length; i++) {
            Matcher matcher = start.matcher(lines[i]);
            if (matcher.matches() && matcher.group(1).length() <= 8) {
                int end = i;
                while (end < lines.length && !lines[end].equals(matcher.group(1) + "}")) {
                    end++;
                }
                methods++;
                Check.holds("length of " + lines[i].trim(), end - i < LONGEST_METHOD);
            }
        }
        Check.holds("methods are found", methods > 80);
    }
}
