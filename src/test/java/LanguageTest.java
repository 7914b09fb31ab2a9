import java.io.IOException;
import java.lang.reflect.Constructor;
import java.lang.reflect.Field;
import java.lang.reflect.Method;
import java.lang.reflect.Modifier;
import java.nio.file.Files;
import java.nio.file.Path;
import java.util.ArrayList;
import java.util.Arrays;
import java.util.List;
import java.util.Set;
import java.util.TreeSet;
import java.util.regex.Matcher;
import java.util.regex.Pattern;

/** The face of the document, and the rules of LANGUAGE.md that can be looked up; run at the project's root. */
public final class LanguageTest {
    private static final Path SOURCE = Path.of("src/main/java/TinSoldiers.java");
    private static final Set<String> FACE = Set.of(
        "int letter(int)", "int blank()", "int fault(int)", "int carpet()", "int treaty()", "int cell(int,int)",
        "int soldier(int,int,int)", "int about(int,int)", "int as(int,int)", "int move(int,int)",
        "int tenths(int,int)", "int shoot(int,int,boolean)", "int dinner()", "int watch(int)",
        "int best(int,int,int)", "int tally(int)", "int forget()", "int fits()", "int last(int)",
        "int afternoons(int,int,int)", "int image()", "int restore()", "int count(int)", "long digest()");

    public static void main(String[] args) throws IOException {
        face();
        constants();
        classesInside();
        String code = withoutComments(Files.readString(SOURCE));
        words(code);
        lengths();
        Due.end();
    }

    private static void face() {
        Set<String> found = new TreeSet<>();
        for (Method method : TinSoldiers.class.getDeclaredMethods()) {
            if (Modifier.isPublic(method.getModifiers())) {
                found.add(told(method));
            } else {
                Due.holds(method + " is private", Modifier.isPrivate(method.getModifiers()));
                Due.holds(method + " has a name of its own", !names().contains(method.getName()));
            }
        }
        Due.holds("the public methods are those of the document: " + found, found.equals(new TreeSet<>(FACE)));
        Constructor<?>[] made = TinSoldiers.class.getDeclaredConstructors();
        Due.holds("one public constructor without arguments", made.length == 1
            && Modifier.isPublic(made[0].getModifiers()) && made[0].getParameterCount() == 0);
        Due.holds("the class is public and final", Modifier.isPublic(TinSoldiers.class.getModifiers())
            && Modifier.isFinal(TinSoldiers.class.getModifiers()));
    }

    private static String told(Method method) {
        List<String> types = new ArrayList<>();
        for (Class<?> type : method.getParameterTypes()) {
            types.add(type.getName());
        }
        return method.getReturnType().getName() + " " + method.getName() + "(" + String.join(",", types) + ")";
    }

    private static void constants() {
        Due.is("NONE", -1, TinSoldiers.NONE);
        Due.is("UNKNOWN", -101, TinSoldiers.UNKNOWN);
        Due.is("OUTSIDE", -102, TinSoldiers.OUTSIDE);
        Due.is("STATE", -103, TinSoldiers.STATE);
        Due.is("FULL", -104, TinSoldiers.FULL);
        Set<String> open = Set.of("NONE", "UNKNOWN", "OUTSIDE", "STATE", "FULL");
        for (Field field : TinSoldiers.class.getDeclaredFields()) {
            int how = field.getModifiers();
            Due.holds(field + " is as the face tells", open.contains(field.getName())
                ? Modifier.isPublic(how) : Modifier.isPrivate(how));
            Due.holds(field + " is final if static", !Modifier.isStatic(how) || Modifier.isFinal(how));
        }
    }

    private static Set<String> names() {
        Set<String> names = new TreeSet<>();
        for (String told : FACE) {
            names.add(told.substring(told.indexOf(' ') + 1, told.indexOf('(')));
        }
        return names;
    }

    private static void classesInside() {
        Set<String> names = names();
        Class<?>[] inside = TinSoldiers.class.getDeclaredClasses();
        Due.holds("at most twelve classes", inside.length + 1 <= 12);
        for (Class<?> one : inside) {
            int how = one.getModifiers();
            Due.holds(one + " is static and not public", Modifier.isStatic(how) && !Modifier.isPublic(how));
            Due.holds(one + " has few fields", one.getDeclaredFields().length <= 20);
            for (Method method : one.getDeclaredMethods()) {
                Due.holds(method + " has a name of its own", !names.contains(method.getName()));
                Due.holds(method + " takes at most seven", method.getParameterCount() <= 7);
            }
        }
    }

    private static String withoutComments(String source) {
        return source.replaceAll("(?s)/\\*.*?\\*/", "").replaceAll("//[^\n]*", "");
    }

    private static void words(String code) {
        for (String word : Arrays.asList("import", "package", "try", "catch", "finally", "throw", "throws", "synchronized",
            "assert", "static \\{", "->", "::", "Object", "System", "ordinal", "name\\(\\)", "double", "float", "var",
            "native", "volatile", "transient", "yield", "hashCode", "toString", "\\w+Exact")) {
            String pattern = word.matches("\\w+") ? "\\b" + word + "\\b" : word;
            Due.holds("no '" + word + "' in the source", !Pattern.compile(pattern).matcher(code).find());
        }
        // What no call makes a run cannot have too much of: objects come with the constructors alone.
        Matcher made = Pattern.compile("new \\w+").matcher(code);
        Set<String> allowed = Set.of("new Page", "new Carpet", "new Game", "new Nights", "new Search", "new Trial",
            "new Troops", "new int", "new char", "new boolean");
        while (made.find()) {
            Due.holds("'" + made.group() + "' is made in a constructor", allowed.contains(made.group()));
        }
        Due.holds("signs are 1 to 127", code.chars().allMatch(sign -> sign >= 1 && sign <= 127));
    }

    private static void lengths() throws IOException {
        List<String> lines = Files.readAllLines(SOURCE);
        Pattern head = Pattern.compile("^( {4}| {8})(\\w.*)\\) \\{$");
        for (int i = 0; i < lines.size(); i++) {
            Matcher found = head.matcher(lines.get(i));
            if (found.matches()) {
                int end = i;
                while (!lines.get(end).equals(found.group(1) + "}")) {
                    end++;
                }
                Due.holds("'" + lines.get(i).trim() + "' has at most sixty lines", end - i + 1 <= 60);
            }
        }
    }
}
