import java.lang.reflect.Method;
import java.nio.file.Files;
import java.nio.file.Path;
import java.util.ArrayList;
import java.util.HashMap;
import java.util.List;
import java.util.Map;
import java.util.TreeMap;
import java.util.TreeSet;
import java.util.regex.Matcher;
import java.util.regex.Pattern;

/** README.md tells no answer that the class does not give, and no refusal that the document does not name. */
public final class ReadmeTest {
    private static final Pattern LINE = Pattern.compile("x\\.(\\w+)\\(([^)]*)\\);\\s*// (-?\\d+).*");
    private static final Pattern ROW = Pattern.compile("\\| `(\\w+)\\(([^)]*)\\)` \\|(.*)\\|(.*)\\|");
    private static final Pattern PROMISE = Pattern.compile("`int (\\w+)\\(([^)]*)\\)`:(.*)");
    private static final Pattern NUMBER = Pattern.compile("-[1-6]\\b");

    private static final Map<String, Method> FACE = new TreeMap<>();
    private static int wrong = 0;
    private static int done = 0;

    public static void main(String[] args) throws Exception {
        for (Method m : ClickEachTurn.class.getMethods()) {
            if (m.getDeclaringClass() == ClickEachTurn.class) FACE.put(m.getName(), m);
        }
        List<String> readme = Files.readAllLines(Path.of("README.md"));
        List<String> document = Files.readAllLines(Path.of("../shared/DOC.md"));
        example(readme);
        rows(readme, document);
        meanings(readme, document);
        statements(readme);
        System.out.println("ReadmeTest: " + (done - wrong) + " of " + done + " lines are as due");
        if (wrong != 0) System.exit(1);
    }

    private static void must(boolean holds, String what) {
        done++;
        if (!holds) {
            wrong++;
            System.out.println("README.md: " + what);
        }
    }

    private static void example(List<String> readme) throws Exception {
        ClickEachTurn x = new ClickEachTurn();
        int told = 0;
        for (String line : readme) {
            Matcher m = LINE.matcher(line);
            if (!m.matches()) continue;
            int got = answer(x, FACE.get(m.group(1)), m.group(2));
            must(got == Integer.parseInt(m.group(3)), line + ": answered " + got);
            told++;
        }
        must(told > 10, "the example tells the answers of its calls");
    }

    private static int answer(ClickEachTurn x, Method call, String numbers) throws Exception {
        Class<?>[] types = call.getParameterTypes();
        Object[] values = new Object[types.length];
        String[] words = numbers.split(", ");
        for (int i = 0; i < types.length; i++) {
            long v = Long.decode(words[i].replace("L", ""));
            if (types[i] == long.class) values[i] = v;
            else values[i] = (int) v;
        }
        return (Integer) call.invoke(x, values);
    }

    /** Each call has one row, with the document's names and the document's refusals in its order. */
    private static void rows(List<String> readme, List<String> document) {
        Map<String, String[]> promised = new HashMap<>();
        for (String line : document) {
            Matcher m = PROMISE.matcher(line);
            if (!m.matches()) continue;
            // Neither the number that asks for a sum nor the refusals that are counted are refusals of the call.
            String refusals = m.group(3).replace("(i -1)", "").replace("REFUSALS -1 .. -6", "");
            promised.put(m.group(1), new String[] {m.group(2).replaceAll("\\b(int|long) ", ""), numbers(refusals)});
        }
        must(promised.keySet().equals(FACE.keySet()), "the document promises the face");
        TreeSet<String> seen = new TreeSet<>();
        for (String line : readme) {
            Matcher m = ROW.matcher(line);
            if (!m.matches()) continue;
            String[] due = promised.get(m.group(1));
            must(seen.add(m.group(1)), "one row alone for " + m.group(1));
            must(due != null && due[0].equals(m.group(2)), "the names in " + m.group(1) + "(" + m.group(2) + ")");
            must(due != null && due[1].equals(numbers(m.group(4))), "the refusals of " + m.group(1) + ": " + m.group(4));
        }
        must(seen.equals(FACE.keySet()), "each call has its row: " + seen);
    }

    private static String numbers(String text) {
        List<String> found = new ArrayList<>();
        Matcher m = NUMBER.matcher(text);
        while (m.find()) found.add(m.group());
        return String.join(" ", found);
    }

    private static void meanings(List<String> readme, List<String> document) {
        Matcher m = Pattern.compile("(-[1-6]) ([A-Z]+)[:.] ").matcher(String.join("\n", document));
        int named = 0;
        while (m.find()) {
            String row = "| " + m.group(1) + " | " + m.group(2) + " | ";
            must(readme.stream().anyMatch(line -> line.startsWith(row)), "no meaning of " + m.group(1) + " " + m.group(2));
            named++;
        }
        must(named == 5, "the document names five refusals, not " + named);
    }

    /** Each statement of the table can be read, and each setting takes its most and no more. */
    private static void statements(List<String> readme) {
        int read = 0;
        for (String line : readme) {
            Matcher m = Pattern.compile("\\| `([fkrq][^`]*;)` \\|.*").matcher(line);
            if (!m.matches()) continue;
            must(Checks.read(new ClickEachTurn(), m.group(1)) == 1, m.group(1) + " can't be read");
            read++;
        }
        must(read == 5, "the table has five statements, not " + read);
        String settings = readme.stream().filter(line -> line.startsWith("SETTINGS are")).findFirst().orElse("");
        Matcher m = Pattern.compile("(\\d) (HILL|SHOE|SLIPS|OILED) \\(0(?:,| \\.\\.) (\\d+)").matcher(settings);
        int set = 0;
        while (m.find()) {
            ClickEachTurn x = new ClickEachTurn();
            int what = Integer.parseInt(m.group(1));
            int most = Integer.parseInt(m.group(3));
            must(x.set(what, most) >= 0 && x.set(what, most + 1) == -6 && x.set(what, 0) == most, "the most of " + m.group(2));
            set++;
        }
        must(set == 4, "the settings are four, not " + set);
    }
}
