import java.io.IOException;
import java.lang.reflect.Constructor;
import java.lang.reflect.Field;
import java.lang.reflect.Method;
import java.lang.reflect.Modifier;
import java.nio.file.Files;
import java.nio.file.Path;
import java.util.ArrayList;
import java.util.Arrays;
import java.util.List;
import java.util.TreeSet;
import java.util.regex.Matcher;
import java.util.regex.Pattern;

/** What can be looked at by a machine in LANGUAGE.md, and the face that the document tells. */
public final class LanguageTest {
    private static final String[] FACE = {"int type(long,int)", "int clear()", "int read()", "int place(int)", "int firm(int)",
        "int walker(int,int)", "int board(int,int)", "int why(int)", "int act(int)", "int undo()", "int over()", "int fewest()",
        "int row(int)", "int lost(int)", "int leaps(int)", "int wrong(int)", "int write(int)", "int erase()", "int fault()",
        "int mist(int,int)", "int years(int,int,int)", "int sign(int)", "int limb(int,int)", "int image(int)", "int from(int)",
        "int status(int)", "int count(int)", "long digest()"};
    private static final String[] WORDS = {"throw", "throws", "try", "catch", "finally", "synchronized", "assert", "import",
        "package", "new Object", "Exact", "System\\.(?!arraycopy)", "->", "::", "\"\\s*\\+", "\\+\\s*\"", "equals", "hashCode",
        "toString", "float", "double", "record", "var", "native", "volatile", "transient"};
    private static int wrong;

    private static void must(boolean holds, String what) {
        if (!holds) {
            wrong++;
            System.out.println(what);
        }
    }

    public static void main(String[] args) throws IOException {
        checkFace();
        List<Class<?>> all = new ArrayList<>(Arrays.asList(BogBoards.class.getDeclaredClasses()));
        must(all.size() < 12, "rule 11: too many classes");
        all.add(BogBoards.class);
        for (Class<?> c : all) {
            checkClass(c);
        }
        checkText(Files.readString(Path.of("src/main/java/BogBoards.java")));
        System.out.println(wrong == 0 ? "the language is kept to" : wrong + " places are outside the language");
        if (wrong != 0) {
            System.exit(1);
        }
    }

    private static void checkFace() {
        TreeSet<String> found = new TreeSet<>();
        TreeSet<String> open = new TreeSet<>();
        TreeSet<String> closed = new TreeSet<>();
        for (Method m : BogBoards.class.getDeclaredMethods()) {
            boolean isPublic = Modifier.isPublic(m.getModifiers());
            must(isPublic || Modifier.isPrivate(m.getModifiers()), "rule 1: neither public nor private: " + m);
            (isPublic ? open : closed).add(m.getName());
            if (isPublic) {
                StringBuilder told = new StringBuilder();
                for (Class<?> p : m.getParameterTypes()) {
                    told.append(told.length() == 0 ? "" : ",").append(p.getName());
                }
                found.add(m.getReturnType().getName() + " " + m.getName() + "(" + told + ")");
            }
        }
        must(found.equals(new TreeSet<>(Arrays.asList(FACE))), "rule 1: the face is " + found);
        for (Class<?> c : BogBoards.class.getDeclaredClasses()) {
            for (Method m : c.getDeclaredMethods()) {
                closed.add(m.getName());
            }
        }
        closed.retainAll(open);
        must(closed.isEmpty(), "rule 1: bear the name of a public one: " + closed);
        TreeSet<String> constants = new TreeSet<>();
        for (Field f : BogBoards.class.getDeclaredFields()) {
            boolean isPublic = Modifier.isPublic(f.getModifiers());
            must(isPublic || Modifier.isPrivate(f.getModifiers()), "rule 1: neither public nor private: " + f);
            if (isPublic) {
                constants.add(f.getName());
            }
        }
        must(constants.equals(new TreeSet<>(List.of("NONE", "BAD", "NO", "FULL"))), "rule 1: constants are " + constants);
        Constructor<?>[] made = BogBoards.class.getConstructors();
        must(made.length == 1 && made[0].getParameterCount() == 0, "rule 1: constructors");
        must(Modifier.isFinal(BogBoards.class.getModifiers()), "rule 1: final");
    }

    private static void checkClass(Class<?> c) {
        int fields = 0;
        for (Field f : c.getDeclaredFields()) {
            boolean isStatic = Modifier.isStatic(f.getModifiers());
            must(!isStatic || Modifier.isFinal(f.getModifiers()), "rule 5: static and not final: " + f);
            fields += isStatic ? 0 : 1;
        }
        must(fields <= 20, "rule 11: too many fields: " + c);
        for (Method m : c.getDeclaredMethods()) {
            must(m.getParameterCount() <= 7, "rule 11: too many parameters: " + m);
        }
        must(c == BogBoards.class || Modifier.isStatic(c.getModifiers()), "rule 2: not static: " + c);
        int shown = Modifier.PUBLIC | Modifier.PROTECTED;
        must(c == BogBoards.class || (c.getModifiers() & shown) == 0, "rule 2: seen from outside: " + c);
        must(c.getDeclaredClasses().length == 0 || c == BogBoards.class, "rule 2: classes in " + c);
    }

    private static void checkText(String source) {
        String bare = source.replaceAll("(?s)/\\*.*?\\*/", "").replaceAll("//[^\n]*", "");
        for (String word : WORDS) {
            String wanted = Character.isLetter(word.charAt(0)) ? "\\b" + word + (word.endsWith(")") ? "" : "\\b") : word;
            Matcher m = Pattern.compile(wanted).matcher(bare);
            must(!m.find(), "rules 4, 6, 10: " + word);
        }
        for (char c : source.toCharArray()) {
            must(c < 127, "rule 4: a sign beyond 127");
        }
        int started = 0;
        String[] lines = source.split("\n");
        for (int i = 0; i < lines.length; i++) {
            must(lines[i].length() <= 120, "line " + (i + 1) + " is long");
            if (lines[i].matches("^( {4}| {8})[A-Za-z].*\\) \\{$")) {
                started = i;
            }
            must(!lines[i].matches("^( {4}| {8})\\}$") || i - started <= 60 || lines[i].startsWith("    }"),
                "rule 11: a long method ends in line " + (i + 1));
        }
    }
}
