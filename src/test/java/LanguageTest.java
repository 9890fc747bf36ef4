import java.lang.reflect.Constructor;
import java.lang.reflect.Field;
import java.lang.reflect.Method;
import java.lang.reflect.Modifier;
import java.nio.file.Files;
import java.nio.file.Path;
import java.util.Set;
import java.util.TreeSet;
import java.util.regex.Matcher;
import java.util.regex.Pattern;

/** The class keeps to the document's face and to what of LANGUAGE.md can be seen from outside and in its words. */
public final class LanguageTest {
    private static final Checks CHECKS = new Checks();
    private static final String[] FACE = {
        "int plan(int,int,int)", "int size(int)", "long odds(int,int,int,int)", "long least(int,int,int,int)",
        "long mean(int,int,int)", "int feed(int,long)", "int rule()", "int believes(int,int,int)",
        "long believed(int,int,int,int)", "int line(int,int)", "int fewest(int,int,int,int)",
        "long well(int,int,int,int,int)", "int kept(int,int,int)", "long many(int,int,int,int)",
        "long gain(int,int,int)", "long belief(int,int,int,int,int)", "long letter(int,int,int)", "int lots(int)",
        "int lot(int,int)", "int rank(int,int)", "int lean(int,int)", "int even(int)", "int bestLot(int)",
        "int marked(int,int,int)", "int free(int,int,int)", "int sit(int,int,boolean)", "int show(int)",
        "int drawer(int,int)", "int turned(int,int)", "int count(int)"};
    private static final String[] NOT_ALLOWED = {
        "\\bthrow\\b", "\\btry\\b", "\\bcatch\\b", "\\bsynchronized\\b", "\\bassert\\b", "\\bprotected\\b", "\\bpackage\\b",
        "->", "::", "Exact\\b", "\\bThread\\b", "\\bSystem\\.(?!arraycopy\\b)", "\\bRandom\\b", "\\bObject\\b", "@",
        "\\bhashCode\\b", "\\bstatic \\{"};
    private static final String[] ALLOWED_IMPORTS = {"java.util.ArrayList", "java.util.Arrays", "java.util.List"};

    public static void main(String[] args) throws Exception {
        checkFace();
        checkClasses();
        String source = Files.readString(Path.of(System.getProperty("milkfirst.source")));
        checkWords(source);
        CHECKS.end("LanguageTest");
    }

    private static void checkFace() {
        Set<String> due = new TreeSet<>(Set.of(FACE));
        Set<String> found = new TreeSet<>();
        Set<String> publicNames = new TreeSet<>();
        for (Method method : MilkFirst.class.getDeclaredMethods()) {
            if (Modifier.isPrivate(method.getModifiers())) continue;
            found.add(told(method));
            publicNames.add(method.getName());
            CHECKS.holds(method + " is public, and of the object", method.getModifiers() == Modifier.PUBLIC);
        }
        CHECKS.holds("the face is " + due + ", found " + found, found.equals(due));
        for (Class<?> one : MilkFirst.class.getDeclaredClasses()) {
            for (Method method : one.getDeclaredMethods()) {
                CHECKS.holds(method + " bears no public name", !publicNames.contains(method.getName()));
            }
        }
        for (Method method : MilkFirst.class.getDeclaredMethods()) {
            boolean isPrivate = Modifier.isPrivate(method.getModifiers());
            CHECKS.holds(method + " bears no public name", !isPrivate || !publicNames.contains(method.getName()));
        }
        Constructor<?>[] constructors = MilkFirst.class.getDeclaredConstructors();
        CHECKS.due("constructors", constructors.length, 1);
        CHECKS.holds("it is public, without parameters", constructors[0].getModifiers() == Modifier.PUBLIC
            && constructors[0].getParameterCount() == 0);
        CHECKS.holds("the class is public and final", MilkFirst.class.getModifiers() == (Modifier.PUBLIC | Modifier.FINAL));
    }

    private static String told(Method method) {
        StringBuilder told = new StringBuilder(method.getReturnType().getName() + " " + method.getName() + "(");
        for (Class<?> parameter : method.getParameterTypes()) {
            if (told.charAt(told.length() - 1) != '(') told.append(',');
            told.append(parameter.getName());
        }
        return told.append(')').toString();
    }

    private static void checkClasses() {
        Class<?>[] inside = MilkFirst.class.getDeclaredClasses();
        CHECKS.holds("some twelve classes", inside.length + 1 <= 12);
        checkMembers(MilkFirst.class);
        for (Field field : MilkFirst.class.getDeclaredFields()) {
            CHECKS.holds(field + " is private", Modifier.isPrivate(field.getModifiers()));
        }
        for (Class<?> one : inside) {
            CHECKS.holds(one + " is private and static", Modifier.isPrivate(one.getModifiers())
                && Modifier.isStatic(one.getModifiers()));
            checkMembers(one);
        }
    }

    private static void checkMembers(Class<?> one) {
        int fields = 0;
        for (Field field : one.getDeclaredFields()) {
            if (!Modifier.isStatic(field.getModifiers())) fields++;
            else CHECKS.holds(field + " is final", Modifier.isFinal(field.getModifiers()));
        }
        CHECKS.holds(one + " has some twenty fields", fields <= 20);
        for (Method method : one.getDeclaredMethods()) {
            CHECKS.holds(method + " has seven parameters at most", method.getParameterCount() <= 7);
            CHECKS.holds(method + " is no machine's", !method.isSynthetic());
        }
    }

    private static void checkWords(String source) {
        String code = source.replaceAll("(?s)/\\*.*?\\*/", "").replaceAll("//[^\n]*", "")
            .replaceAll("'(\\\\.|[^'])'", "' '");
        for (String word : NOT_ALLOWED) {
            CHECKS.holds("no " + word, !Pattern.compile(word).matcher(code).find());
        }
        Matcher imports = Pattern.compile("import ([^;]*);").matcher(code);
        while (imports.find()) {
            CHECKS.holds("import " + imports.group(1), Set.of(ALLOWED_IMPORTS).contains(imports.group(1)));
        }
        for (int i = 0; i < source.length(); i++) {
            if (source.charAt(i) > 126) CHECKS.holds("sign at " + i, false);
        }
        CHECKS.holds("no texts", code.indexOf('"') < 0);
        checkLengths(code);
    }

    /** Methods end with a brace as deep as they begin: four signs in the class, eight in those inside it. */
    private static void checkLengths(String code) {
        Matcher methods = Pattern.compile("(?m)^( {4}| {8})(?! )[^\n]*\\) \\{\n(?s:.*?)\n\\1\\}").matcher(code);
        int found = 0;
        while (methods.find()) {
            found++;
            String method = methods.group();
            CHECKS.holds("short enough: " + method.substring(0, Math.min(70, method.length())), method.lines().count() <= 60);
        }
        CHECKS.holds("the methods were found", found > 80);
    }
}
