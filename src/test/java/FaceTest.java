import java.lang.management.ManagementFactory;
import java.lang.reflect.Constructor;
import java.lang.reflect.Field;
import java.lang.reflect.Method;
import java.lang.reflect.Modifier;
import java.nio.charset.StandardCharsets;
import java.nio.file.Files;
import java.nio.file.Path;
import java.util.ArrayList;
import java.util.Arrays;
import java.util.List;
import java.util.TreeSet;
import java.util.regex.Matcher;
import java.util.regex.Pattern;

/** The document's face, the rules of LANGUAGE.md that can be seen, and how much a run makes. */
public final class FaceTest {
    private static final String[] FACE = {
        "feed int long", "bicycle", "part int", "fault int int", "rounds int int int", "load int int", "set int int", "oil",
        "stage int int int", "stageOf int int", "drop", "counts int", "stageCounts int int int int", "when int int",
        "heard int", "go", "fit int int", "odds int int int int", "twos int int int", "apart int int", "tells int int",
        "length int int int int int", "beat int int int", "away int", "danger int", "least int", "row int", "judge", "held",
        "image", "on", "count int"};
    private static int wrong = 0;

    public static void main(String[] args) throws Exception {
        face();
        inside();
        source();
        room();
        System.out.println(wrong == 0 ? "FaceTest: the face and the rules are kept" : "FaceTest: " + wrong + " faults");
        if (wrong != 0) System.exit(1);
    }

    private static void must(boolean holds, String what) {
        if (!holds) {
            wrong++;
            System.out.println(what);
        }
    }

    private static void face() {
        Class<?> c = ClickEachTurn.class;
        must(Modifier.isPublic(c.getModifiers()) && Modifier.isFinal(c.getModifiers()), "the class is public and final");
        TreeSet<String> seen = new TreeSet<>();
        for (Method m : c.getDeclaredMethods()) {
            if (Modifier.isPrivate(m.getModifiers())) continue;
            StringBuilder s = new StringBuilder(m.getName());
            for (Class<?> p : m.getParameterTypes()) s.append(' ').append(p.getName());
            seen.add(s.toString());
            must(Modifier.isPublic(m.getModifiers()) && !Modifier.isStatic(m.getModifiers()), s + " is public");
            must(m.getReturnType() == int.class, s + " answers an int");
        }
        must(seen.equals(new TreeSet<>(Arrays.asList(FACE))), "the methods are the document's: " + seen);
        Constructor<?>[] made = c.getDeclaredConstructors();
        must(made.length == 1 && made[0].getParameterCount() == 0 && Modifier.isPublic(made[0].getModifiers()), "one constructor");
    }

    private static void inside() {
        List<Class<?>> all = new ArrayList<>(Arrays.asList(ClickEachTurn.class.getDeclaredClasses()));
        for (Class<?> c : all) must(Modifier.isStatic(c.getModifiers()) && Modifier.isPrivate(c.getModifiers()), c + " is private and static");
        all.add(ClickEachTurn.class);
        must(all.size() <= 12, "at most twelve classes");
        TreeSet<String> face = new TreeSet<>();
        for (String s : FACE) face.add(s.split(" ")[0]);
        for (Class<?> c : all) {
            int fields = 0;
            for (Field f : c.getDeclaredFields()) {
                if (Modifier.isStatic(f.getModifiers())) must(Modifier.isFinal(f.getModifiers()), f + " is final");
                else fields++;
                if (c == ClickEachTurn.class) must(Modifier.isPrivate(f.getModifiers()), f + " is private");
            }
            must(fields <= 20, c + " has at most twenty fields");
            for (Method m : c.getDeclaredMethods()) {
                must(m.getParameterCount() <= 7, m + " takes at most seven");
                if (!Modifier.isPublic(m.getModifiers())) must(!face.contains(m.getName()), m + " has no public one's name");
            }
        }
    }

    private static void source() throws Exception {
        String text = Files.readString(Path.of("src/main/java/ClickEachTurn.java"), StandardCharsets.ISO_8859_1);
        for (int i = 0; i < text.length(); i++) must(text.charAt(i) < 128, "signs below 128 alone");
        String code = text.replaceAll("(?s)/\\*.*?\\*/", "").replaceAll("//[^\n]*", "");
        Matcher m = Pattern.compile("\\b(throw|throws|try|catch|synchronized|assert|import|package|native|volatile|transient"
            + "|strictfp|double|float|protected|String|Object|System\\.(?!arraycopy)\\w+)\\b|->|::|\"").matcher(code);
        while (m.find()) must(false, "not in the language or not needed: " + m.group());
        int start = 0;
        String[] lines = text.split("\n");
        for (int i = 0; i < lines.length; i++) {
            if (lines[i].matches(" {4,8}[^ /*}].*\\) \\{")) start = i;
            if (lines[i].matches(" {4,8}\\}")) must(i - start <= 60, "a method of more than sixty lines ends in line " + (i + 1));
        }
    }

    /** No call makes an object: all that a run needs is made with the object itself. */
    private static void room() {
        com.sun.management.ThreadMXBean bean = (com.sun.management.ThreadMXBean) ManagementFactory.getThreadMXBean();
        ClickEachTurn x = Checks.bike("f60;r10;r11;r12;r13;r14;qb00,0,1,1,20/1;qb00,0,1,1,20/1;", "qb00,0,1,1,20/1;qt00,0,1,1;");
        for (int i = 0; i < 8; i++) x.stage(i % 4, i % 5, 60);
        calls(x);
        bean.getThreadAllocatedBytes(Thread.currentThread().getId());
        long before = bean.getThreadAllocatedBytes(Thread.currentThread().getId());
        for (int i = 0; i < 13; i++) calls(x);
        long made = bean.getThreadAllocatedBytes(Thread.currentThread().getId()) - before;
        must(made < 1000, "calls make no objects, but " + made + " bytes were made");
    }

    private static void calls(ClickEachTurn x) {
        x.feed(4, 0x3b30326bL);
        x.bicycle();
        x.feed(4, 0x3b303266L);
        x.bicycle();
        x.part(0); x.fault(0, 5); x.rounds(0, 0, 0); x.load(0, 0); x.set(0, 3); x.oil();
        x.stage(0, 0, 1); x.stageOf(0, 0); x.counts(0); x.stageCounts(0, 0, 0, 60); x.when(0, 9000); x.heard(3); x.go();
        x.fit(9, 9999); x.odds(0, 9, 9999, 1); x.twos(9, 9999, 3); x.apart(0, 1); x.tells(60, 0); x.length(0, 1, 0, 0, 999);
        x.beat(0, 1, 0); x.away(0); x.danger(0); x.least(0); x.row(3); x.judge(); x.held(); x.image(); x.on(); x.count(3);
    }
}
