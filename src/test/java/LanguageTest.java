import java.io.IOException;
import java.lang.reflect.Constructor;
import java.lang.reflect.Field;
import java.lang.reflect.Method;
import java.lang.reflect.Modifier;
import java.nio.charset.StandardCharsets;
import java.nio.file.Files;
import java.nio.file.Path;
import java.util.Arrays;
import java.util.Set;
import java.util.TreeSet;
import java.util.regex.Matcher;
import java.util.regex.Pattern;

/** What of LANGUAGE.md can be seen from outside: the face, and words that the source may not hold. */
final class LanguageTest {
    private static final Set<String> FACE = Set.of("int write(long,int)", "int erase()", "int fault()", "int street()",
            "int house(int,int)", "int deed(int,int)", "int as(int,int)", "int set(int,int)", "int go(int)",
            "int later(int,int)", "int again(int)", "int first(int,int,int)", "int lack(int,int,int)",
            "int wish(int,int,int)", "int drop()", "int ways()", "int sum(int,int)", "int council(int,int,int)",
            "int idle(int,int,int)", "long odds(int,int,int,int)", "int pair(int)", "int town(int)",
            "int seen(int,int,int)", "int forget()", "int fits(int)", "int keep(int)", "int back(int)",
            "int count(int)");
    private static final Set<String> CONSTANTS = Set.of("NONE", "UNKNOWN", "OUTSIDE", "NOT", "FULL");
    private static final int LONGEST_METHOD = 60, MOST_FIELDS = 20, MOST_CLASSES = 12, MOST_PARAMETERS = 7;

    public static void main(String[] args) throws IOException {
        face();
        for (Class<?> inside : MirrorHour.class.getDeclaredClasses()) {
            due(inside + " is static", Modifier.isStatic(inside.getModifiers()));
            members(inside);
        }
        members(MirrorHour.class);
        due("classes", MirrorHour.class.getDeclaredClasses().length < MOST_CLASSES);
        source(Files.readString(Path.of("src/main/java/MirrorHour.java"), StandardCharsets.ISO_8859_1));
        Check.end();
    }

    private static void due(String rule, boolean kept) {
        Check.due(rule, kept ? 1 : 0, 1);
    }

    private static void face() {
        Set<String> seen = new TreeSet<>();
        for (Method method : MirrorHour.class.getDeclaredMethods()) {
            String parameters = Arrays.toString(method.getParameterTypes()).replaceAll("[\\[\\] ]", "");
            if (Modifier.isPublic(method.getModifiers())) {
                seen.add(method.getReturnType() + " " + method.getName() + "(" + parameters + ")");
            } else {
                due(method + " is private", Modifier.isPrivate(method.getModifiers()));
            }
        }
        due("the methods of the face, not " + seen, seen.equals(FACE));
        for (Field field : MirrorHour.class.getDeclaredFields()) {
            boolean isPublic = Modifier.isPublic(field.getModifiers());
            due(field + " is public or private", isPublic || Modifier.isPrivate(field.getModifiers()));
            due(field + " is a constant of the face", isPublic == CONSTANTS.contains(field.getName()));
        }
        Constructor<?>[] constructors = MirrorHour.class.getDeclaredConstructors();
        due("one public constructor", constructors.length == 1 && Modifier.isPublic(constructors[0].getModifiers())
                && constructors[0].getParameterCount() == 0);
        due("final", Modifier.isFinal(MirrorHour.class.getModifiers()));
    }

    private static void members(Class<?> type) {
        int fields = 0;
        for (Field field : type.getDeclaredFields()) {
            boolean isStatic = Modifier.isStatic(field.getModifiers());
            fields += isStatic ? 0 : 1;
            due(field + " is no static state", !isStatic || Modifier.isFinal(field.getModifiers()));
        }
        due("fields of " + type, fields <= MOST_FIELDS);
        for (Method method : type.getDeclaredMethods()) {
            due("parameters of " + method, method.getParameterCount() <= MOST_PARAMETERS);
            boolean bearsPublicName = FACE.stream().anyMatch(face -> face.contains(" " + method.getName() + "("));
            due(method + " bears no name of the face", Modifier.isPublic(method.getModifiers()) || !bearsPublicName);
        }
    }

    private static void source(String source) {
        String code = source.replaceAll("(?s)/\\*.*?\\*/|//[^\n]*", " ").replaceAll("\"[^\"\n]*\"", "\"\"");
        for (String word : new String[] {"throw", "throws", "try", "catch", "finally", "synchronized", "assert",
            "import", "package", "protected", "volatile", "native", "System\\.(?!arraycopy)", "->", "::", "\\w+Exact",
            "Thread", "Random", "equals", "hashCode", "toString", "NaN"}) {
            Matcher matcher = Pattern.compile(word.matches("\\w+") ? "\\b" + word + "\\b" : word).matcher(code);
            due("no " + word + " in the source", !matcher.find());
        }
        due("signs 10 to 126 alone", source.chars().allMatch(sign -> sign == '\n' || sign >= ' ' && sign < 127));
        Matcher method = Pattern.compile("(?ms)^( +)(?:public |private )[^\n;=]*\\{$.*?^\\1\\}$").matcher(code);
        int methods = 0;
        for (int at = 0; method.find(at); at = method.start() + 1) {
            if (!method.group().contains("class ")) {
                methods++;
                long lines = method.group().chars().filter(sign -> sign == '\n').count() + 1;
                String head = method.group().split("\n")[0].trim();
                due("lines of " + head, lines <= LONGEST_METHOD);
                // A constructor's head has no type ahead of its name: it alone makes rows.
                boolean isConstructor = head.matches("(public|private) \\w+\\(.*");
                due("no new object in " + head, isConstructor || !method.group().matches("(?s).*\\bnew\\b.*"));
            }
        }
        due("methods are found", methods > FACE.size());
    }
}
