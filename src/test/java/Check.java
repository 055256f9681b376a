import java.lang.reflect.InvocationTargetException;
import java.lang.reflect.Method;
import java.lang.reflect.Modifier;
import java.util.Arrays;
import java.util.Comparator;

/** What the tests at the edges share. Each test quotes the words of the document that it stands for. */
abstract class Check {
    private static String test = "";
    private static String sentence = "";
    private static int sentences;
    private static int wrong;

    /** The words that the answers from here on stand for. */
    static void sentence(String words) {
        sentence = words;
        sentences++;
    }

    static void due(String call, long got, long want) {
        if (got != want) {
            wrong++;
            System.out.println(test + " \"" + sentence + "\": " + call + " answered " + got + ", due is " + want);
        }
    }

    /** Eight bytes by each call, so that an object stays within its 512 calls. */
    static void type(BogBoards x, String text) {
        for (int from = 0; from < text.length(); from += 8) {
            int n = Math.min(8, text.length() - from);
            long v = 0;
            for (int i = 0; i < n; i++) {
                v = v << 8 | text.charAt(from + i);
            }
            x.type(v, n);
        }
    }

    /** Reads a text in the place of what was typed. */
    static int read(BogBoards x, String text) {
        x.clear();
        type(x, text);
        return x.read();
    }

    /** A new object that has read a text which can be read. */
    static BogBoards bog(String text) {
        BogBoards x = new BogBoards();
        due("read of '" + text + "' as a whole", Math.min(0, read(x, text)), 0);
        return x;
    }

    /** A new object with a bog and a rule. */
    static BogBoards bog(String text, String rule) {
        BogBoards x = bog(text);
        rule(x, rule);
        return x;
    }

    static void rule(BogBoards x, String rule) {
        x.erase();
        for (int i = 0; i < rule.length(); i++) {
            x.write(rule.charAt(i));
        }
    }

    static void acts(BogBoards x, int... acts) {
        for (int act : acts) {
            due("act(" + act + ")", x.act(act), 1);
        }
    }

    static int walk(int w, int way) {
        return 64 * w + 8 * way;
    }

    static int lay(int w, int b, int way) {
        return 256 + 64 * w + 8 * b + way;
    }

    static int take(int w, int b) {
        return 512 + 64 * w + 8 * b;
    }

    static int hand(int w, int b, int other) {
        return 768 + 64 * w + 8 * b + other;
    }

    static int leap(int w, int way) {
        return 1024 + 64 * w + 8 * way;
    }

    static void refusals(BogBoards x, int bad, int no, int full) {
        due("status(0), BAD", x.status(0), bad);
        due("status(1), NO", x.status(1), no);
        due("status(2), FULL", x.status(2), full);
    }

    /** The items that make islands of all places between 0 and last. */
    static String allIslands(int last) {
        StringBuilder items = new StringBuilder("last " + last + ";");
        for (int p = 1; p < last; p++) {
            items.append("island ").append(p).append(';');
        }
        return items.toString();
    }

    /** Runs each test of a class: what is static, takes nothing, and is not private. Exit code 1 if an answer is wrong. */
    static void runAll(Class<?> tests) {
        Method[] methods = tests.getDeclaredMethods();
        Arrays.sort(methods, Comparator.comparing(Method::getName));
        for (Method m : methods) {
            boolean isTest = Modifier.isStatic(m.getModifiers()) && !Modifier.isPrivate(m.getModifiers());
            if (isTest && m.getParameterCount() == 0) {
                runOne(m);
            }
        }
        System.out.println(tests.getName() + ": " + sentences + " sentences, " + wrong + " answers not as due");
        if (wrong != 0) {
            System.exit(1);
        }
    }

    private static void runOne(Method method) {
        int told = sentences;
        test = method.getName();
        sentence = "";
        try {
            method.invoke(null);
        } catch (InvocationTargetException e) {
            wrong++;
            System.out.println(test + " \"" + sentence + "\": " + e.getCause());
        } catch (IllegalAccessException e) {
            wrong++;
            System.out.println(test + " can not be run");
        }
        if (sentences == told) {
            wrong++;
            System.out.println(test + " quotes no sentence");
        }
    }
}
