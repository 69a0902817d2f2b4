import java.lang.reflect.Constructor;
import java.lang.reflect.Executable;
import java.lang.reflect.Field;
import java.lang.reflect.Method;
import java.lang.reflect.Modifier;
import java.nio.file.Files;
import java.nio.file.Path;
import java.util.HashSet;
import java.util.Set;
import java.util.TreeSet;
import java.util.regex.Matcher;
import java.util.regex.Pattern;

/** The public face, and those rules of LANGUAGE.md that can be read off the class and its file. */
public final class LanguageTest {
    private static final String SOURCE = "src/main/java/ShadowRowDesk.java";
    private static final String[] FACE = {
        "write 1", "erase 0", "fault 0", "read 1", "compose 3", "invert 2", "part 3", "move 3", "stretch 3",
        "series 3", "polynomial 3", "value 3", "connect 4", "differ 2", "take 2", "put 2", "plus 3", "act 2",
        "raise 1", "shift 1", "times 0", "swap 2", "climb 1", "weigh 1", "undo 0", "hand 1", "at 1", "expand 2",
        "sum 1", "keep 1", "back 1", "count 1"};
    private static final Set<String> CONSTANTS = Set.of("NONE", "UNKNOWN", "OUTSIDE", "NOT", "FULL", "WRONG");

    private static int wrong = 0;

    private LanguageTest() {
    }

    public static void main(String[] args) throws Exception {
        face();
        members();
        source();
        System.out.println(wrong == 0 ? "the class keeps to its language" : wrong + " rules broken");
        if (wrong != 0) {
            System.exit(1);
        }
    }

    private static void hold(boolean holds, String what) {
        if (!holds) {
            wrong++;
            System.out.println(what);
        }
    }

    private static void face() {
        Class<?> desk = ShadowRowDesk.class;
        hold(Modifier.isPublic(desk.getModifiers()) && Modifier.isFinal(desk.getModifiers()), "not public final");
        Set<String> found = new TreeSet<>();
        for (Method method : desk.getDeclaredMethods()) {
            if (!Modifier.isPrivate(method.getModifiers())) {
                hold(Modifier.isPublic(method.getModifiers()), "not of the face: " + method);
                hold(method.getReturnType() == int.class, "no int: " + method);
                hold(!Modifier.isStatic(method.getModifiers()), "static: " + method);
                for (Class<?> type : method.getParameterTypes()) {
                    hold(type == int.class, "a parameter is no int: " + method);
                }
                found.add(method.getName() + " " + method.getParameterCount());
            }
        }
        hold(found.equals(new TreeSet<>(Set.of(FACE))), "the face is another one: " + found);
        hold(desk.getDeclaredConstructors().length == 1 && desk.getConstructors().length == 1
                && desk.getConstructors()[0].getParameterCount() == 0, "constructors");
        for (Field field : desk.getDeclaredFields()) {
            boolean constant = CONSTANTS.contains(field.getName());
            hold(constant == Modifier.isPublic(field.getModifiers()), "who sees: " + field);
            hold(constant || Modifier.isPrivate(field.getModifiers()), "not private: " + field);
        }
    }

    private static void members() {
        Set<String> publicNames = new HashSet<>();
        for (String each : FACE) {
            publicNames.add(each.substring(0, each.indexOf(' ')));
        }
        Class<?>[] inside = ShadowRowDesk.class.getDeclaredClasses();
        hold(inside.length <= 11, "too many classes");
        membersOf(ShadowRowDesk.class, publicNames, true);
        for (Class<?> each : inside) {
            hold(Modifier.isStatic(each.getModifiers()), "not static: " + each);
            hold(!Modifier.isPublic(each.getModifiers()) && !Modifier.isProtected(each.getModifiers()),
                    "seen from outside: " + each);
            hold(each.getDeclaredClasses().length == 0, "classes inside: " + each);
            membersOf(each, publicNames, false);
        }
    }

    private static void membersOf(Class<?> each, Set<String> publicNames, boolean isDesk) {
        int fields = 0;
        for (Field field : each.getDeclaredFields()) {
            boolean isStatic = Modifier.isStatic(field.getModifiers());
            hold(!isStatic || Modifier.isFinal(field.getModifiers()), "static and not final: " + field);
            fields += isStatic ? 0 : 1;
        }
        hold(fields <= 20, "too many fields: " + each);
        for (Method method : each.getDeclaredMethods()) {
            fewParameters(method);
            boolean isFace = isDesk && Modifier.isPublic(method.getModifiers());
            hold(isFace || !publicNames.contains(method.getName()), "the name of a public one: " + method);
            hold(!Set.of("equals", "hashCode", "toString").contains(method.getName()), "an own " + method);
        }
        for (Constructor<?> constructor : each.getDeclaredConstructors()) {
            fewParameters(constructor);
        }
    }

    private static void fewParameters(Executable member) {
        hold(member.getParameterCount() <= 7, "too many parameters: " + member);
    }

    private static void source() throws Exception {
        String whole = Files.readString(Path.of(SOURCE));
        for (int i = 0; i < whole.length(); i++) {
            hold(whole.charAt(i) < 128, "a sign beyond 127 at " + i);
        }
        String code = whole.replaceAll("(?s)/\\*.*?\\*/", "").replaceAll("//[^\n]*", "")
                .replaceAll("'[^']+'", "' '");
        for (String word : new String[] {"throw", "throws", "try", "catch", "finally", "synchronized", "assert",
            "package", "import", "protected", "native", "volatile", "transient", "float", "double", "var", "yield"}) {
            hold(!Pattern.compile("\\b" + word + "\\b").matcher(code).find(), "the word " + word);
        }
        hold(!code.contains("->"), "a lambda");
        hold(!code.contains("::"), "a method reference");
        hold(!code.contains("Exact("), "a function whose name ends in Exact");
        libraryOf(code);
        lengthsOf(whole);
    }

    /** The file needs no more of the library than these. */
    private static void libraryOf(String code) {
        Set<String> known = Set.of("System.arraycopy", "Math.min");
        Matcher calls = Pattern.compile("\\b(System|Math|Integer|Long|Arrays|String|Character|Thread|Object)\\.\\w+")
                .matcher(code);
        while (calls.find()) {
            hold(known.contains(calls.group()), "the library's " + calls.group());
        }
    }

    /** A method begins with a line that ends in { and ends where a } stands as far in. */
    private static void lengthsOf(String whole) {
        String[] lines = whole.split("\n");
        Pattern head = Pattern.compile("( {4}| {8})(?!.*\\bclass\\b)[A-Za-z].*\\) \\{");
        for (int i = 0; i < lines.length; i++) {
            Matcher begin = head.matcher(lines[i]);
            if (begin.matches()) {
                int end = i;
                while (end < lines.length && !lines[end].equals(begin.group(1) + "}")) {
                    end++;
                }
                hold(end - i <= 60, "a long method at line " + (i + 1));
            }
        }
    }
}
