import java.io.IOException;
import java.nio.file.Files;
import java.nio.file.Path;
import java.util.List;
import java.util.regex.Matcher;
import java.util.regex.Pattern;

/** What README.md shows, line by line: each answer behind // is the one that is given. */
public final class ReadmeTest {
    private static final Pattern CALL = Pattern.compile("x\\.(\\w+)\\(([-0-9, ]*)\\); *// (-?\\d+).*");
    private static final Pattern TEXT = Pattern.compile("String (text|rule) = \"(.*)\";");
    private static int wrong;
    private static int shown;

    public static void main(String[] args) throws IOException {
        BogBoards x = new BogBoards();
        for (String line : Files.readAllLines(Path.of("README.md"))) {
            Matcher text = TEXT.matcher(line);
            Matcher call = CALL.matcher(line);
            if (text.matches()) {
                put(x, text.group(1), text.group(2));
            } else if (call.matches()) {
                due(line, answer(x, call.group(1), numbers(call.group(2))), Integer.parseInt(call.group(3)));
            }
        }
        if (shown < 20) {
            wrong++;
            System.out.println("README.md shows only " + shown + " answers");
        }
        System.out.println(shown + " answers in README.md, " + wrong + " not as due");
        if (wrong != 0) {
            System.exit(1);
        }
    }

    private static void due(String line, int got, int told) {
        shown++;
        if (got != told) {
            wrong++;
            System.out.println("README.md: " + line + ": answered " + got);
        }
    }

    private static void put(BogBoards x, String where, String what) {
        for (char c : what.toCharArray()) {
            if (where.equals("text")) {
                x.type(c, 1);
            } else {
                x.write(c);
            }
        }
    }

    private static int[] numbers(String told) {
        return List.of(told.split(", *")).stream().filter(n -> !n.isEmpty()).mapToInt(Integer::parseInt).toArray();
    }

    private static int answer(BogBoards x, String name, int[] n) {
        switch (name) {
            case "read": return x.read();
            case "walker": return x.walker(n[0], n[1]);
            case "board": return x.board(n[0], n[1]);
            case "place": return x.place(n[0]);
            case "firm": return x.firm(n[0]);
            case "why": return x.why(n[0]);
            case "act": return x.act(n[0]);
            case "wrong": return x.wrong(n[0]);
            case "status": return x.status(n[0]);
            case "undo": return x.undo();
            case "fewest": return x.fewest();
            case "row": return x.row(n[0]);
            case "lost": return x.lost(n[0]);
            case "leaps": return x.leaps(n[0]);
            case "fault": return x.fault();
            case "mist": return x.mist(n[0], n[1]);
            case "years": return x.years(n[0], n[1], n[2]);
            case "limb": return x.limb(n[0], n[1]);
            case "image": return x.image(n[0]);
            case "erase": return x.erase();
            case "from": return x.from(n[0]);
            case "count": return x.count(n[0]);
            default: throw new IllegalArgumentException("README.md: " + name + " is not known to this test");
        }
    }
}
