import java.io.IOException;
import java.lang.reflect.Constructor;
import java.lang.reflect.Field;
import java.lang.reflect.Method;
import java.lang.reflect.Modifier;
import java.nio.file.Files;
import java.nio.file.Path;
import java.util.Set;
import java.util.TreeSet;
import java.util.regex.Matcher;
import java.util.regex.Pattern;

/** What can be seen from outside of the rules in ../shared/LANGUAGE.md: the face, and words that have no place. */
public final class LanguageTests {
    private static final String[] FACE = {
        "int putRow(int,int,int,int)", "int putMark(int,int)", "int setSlack(int,int)",
        "int addView(char,char,char,int,int,int)", "int entries(int)", "int read(int,int)", "int place(int)",
        "int markOf(int)", "int mark()", "int told(int)", "int valueOf(int,int,int,int)",
        "int valueByAll(int,int,int,int)", "int firstFrom(int,int)", "int dropped(int)", "int held(int)",
        "int waiting()", "int cut()", "int complete()", "int crash()", "int promised()", "int outputAt(int,int)",
        "int waitingAt(int,int)", "int promisedSum(int)", "int moveKey(int,int)", "int workerOf(int)",
        "int load(int)", "float meanOf(int,int)", "int rest(int,int,int)", "double droppedShare()",
        "boolean isSound()",
    };
    private static final String[] FORBIDDEN = {
        "->", "::", "\\btry\\b", "\\bcatch\\b", "\\bfinally\\b", "\\bsynchronized\\b", "\\bassert\\b", "Exact\\b",
        "\\bSystem\\.(?!arraycopy)", "\\bFloat\\b", "\\bDouble\\b", "Math\\.(floor|ceil|round|random)\\(", "\\bThread\\b",
        "\\bequals\\b", "\\bhashCode\\b", "\\btoString\\b", "static \\{", "@Override", "\\bObject\\b", "\\bvar\\b",
    };
    private static final String THROWN = "new (IllegalState|IllegalArgument|IndexOutOfBounds|Arithmetic"
            + "|UnsupportedOperation|NoSuchElement|Runtime)Exception\\((\"\")?\\);.*";
    private static final String HEAD = " ++(?!(if|for|while|do|switch|else)\\b)[\\w<>\\[\\], ]+\\(.*";
    private static final int MOST_CLASSES = 12;
    private static final int MOST_FIELDS = 20;
    private static final int MOST_LINES = 60;
    private static int wrong = 0;
    private static int classes = 0;

    public static void main(String[] args) throws IOException {
        face();
        inside(ViewFoundry.class);
        if (classes > MOST_CLASSES) {
            report(classes + " classes");
        }
        words();
        lengths();
        System.out.println(wrong == 0 ? "the face and the words are as they should be" : wrong + " wrong");
        if (wrong != 0) {
            System.exit(1);
        }
    }

    private static void report(String text) {
        wrong++;
        System.out.println(text);
    }

    private static void face() {
        Set<String> due = new TreeSet<>(Set.of(FACE));
        Set<String> names = new TreeSet<>();
        for (Method method : ViewFoundry.class.getDeclaredMethods()) {
            if (Modifier.isPrivate(method.getModifiers()) || method.isSynthetic()) {
                continue;
            }
            names.add(method.getName());
            StringBuilder text = new StringBuilder(method.getReturnType() + " " + method.getName() + "(");
            for (Class<?> type : method.getParameterTypes()) {
                text.append(text.charAt(text.length() - 1) == '(' ? "" : ",").append(type);
            }
            if (!Modifier.isPublic(method.getModifiers()) || !due.remove(text + ")")) {
                report("not of the face: " + text + ")");
            }
        }
        for (String missing : due) {
            report("missing: " + missing);
        }
        for (Method method : ViewFoundry.class.getDeclaredMethods()) {
            if (Modifier.isPrivate(method.getModifiers()) && names.contains(method.getName())) {
                report("private, with the name of a public one: " + method.getName());
            }
        }
        Constructor<?>[] constructors = ViewFoundry.class.getDeclaredConstructors();
        if (constructors.length != 1 || !Modifier.isPublic(constructors[0].getModifiers())) {
            report("not just one public constructor");
        }
        for (Field field : ViewFoundry.class.getDeclaredFields()) {
            if (!Modifier.isPrivate(field.getModifiers())) {
                report("not private: " + field.getName());
            }
        }
        if (!Modifier.isFinal(ViewFoundry.class.getModifiers())) {
            report("not final");
        }
    }

    private static void inside(Class<?> type) {
        classes++;
        Set<Class<?>> constants = Set.of(int.class, long.class, boolean.class, char.class, String.class);
        int fields = 0;
        for (Field field : type.getDeclaredFields()) {
            int modifiers = field.getModifiers();
            if (Modifier.isStatic(modifiers) && !(Modifier.isFinal(modifiers) && constants.contains(field.getType()))) {
                report("no constant: " + type.getName() + "." + field.getName());
            }
            fields += Modifier.isStatic(modifiers) ? 0 : 1;
        }
        if (fields > MOST_FIELDS) {
            report(fields + " fields: " + type.getName());
        }
        for (Method method : type.getDeclaredMethods()) {
            if (method.getParameterCount() > 7) {
                report("more than seven parameters: " + type.getName() + "." + method.getName());
            }
        }
        for (Constructor<?> constructor : type.getDeclaredConstructors()) {
            if (constructor.getParameterCount() > 7) {
                report("more than seven parameters: a constructor of " + type.getName());
            }
        }
        for (Class<?> nested : type.getDeclaredClasses()) {
            int modifiers = nested.getModifiers();
            if (!Modifier.isStatic(modifiers) || Modifier.isPublic(modifiers) || Modifier.isProtected(modifiers)) {
                report("not private and static: " + nested.getName());
            }
            inside(nested);
        }
    }

    private static void words() throws IOException {
        String source = Files.readString(Path.of("src/main/java/ViewFoundry.java"));
        String code = source.replaceAll("(?s)/\\*.*?\\*/", "").replaceAll("//[^\n]*", "").replaceAll("\"[^\"]*\"", "\"\"");
        for (String forbidden : FORBIDDEN) {
            Matcher matcher = Pattern.compile(forbidden).matcher(code);
            if (matcher.find()) {
                report("has no place in the program: " + matcher.group());
            }
        }
        Matcher thrown = Pattern.compile("\\bthrow\\s+([^\n]*)").matcher(code);
        while (thrown.find()) {
            if (!thrown.group(1).matches(THROWN)) {
                report("not thrown as the rules say: " + thrown.group());
            }
        }
        Matcher imports = Pattern.compile("import ([\\w.]+);").matcher(code);
        Set<String> known = Set.of("java.util.ArrayList", "java.util.Arrays", "java.util.NoSuchElementException");
        while (imports.find()) {
            if (!known.contains(imports.group(1))) {
                report("imported: " + imports.group(1));
            }
        }
    }

    /** The methods' lengths, by the indents of what opens and closes them. */
    private static void lengths() throws IOException {
        int line = 0;
        int start = 0;
        String opened = "";
        for (String text : Files.readAllLines(Path.of("src/main/java/ViewFoundry.java"))) {
            line++;
            String indent = text.substring(0, text.length() - text.stripLeading().length());
            boolean outermost = indent.length() == 4 || indent.length() == 8;
            if (outermost && !text.endsWith(";") && text.matches(HEAD)) {
                opened = indent;
                start = line;
            }
            if (start > 0 && text.equals(opened + "}")) {
                if (line - start >= MOST_LINES) {
                    report("too long: the method at line " + start);
                }
                start = 0;
            }
        }
    }
}
