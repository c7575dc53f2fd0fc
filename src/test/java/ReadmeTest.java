import java.io.IOException;
import java.lang.reflect.Method;
import java.lang.reflect.Modifier;
import java.nio.charset.StandardCharsets;
import java.nio.file.Files;
import java.nio.file.Path;

/** README.md's code, line by line, answers what README.md says, and its table names every call. */
public final class ReadmeTest {
    private static String readme;
    private static int wrong;

    public static void main(String[] args) throws IOException {
        readme = Files.readString(Path.of("README.md"), StandardCharsets.UTF_8);
        examples();
        reader();
        table();
        System.out.println(wrong == 0 ? "README.md tells it as it is" : wrong + " wrong in README.md");
        if (wrong != 0) {
            System.exit(1);
        }
    }

    /** The line stands in README.md, with the answer at the head of its comment. */
    private static void line(String code, Object answer) {
        boolean told = false;
        for (String line : readme.split("\n")) {
            told |= line.matches("\\Q" + code + "\\E +// " + answer + "(:.*)?");
        }
        if (!told) {
            wrong++;
            System.out.println(code + " answers " + answer + ", which README.md doesn't say");
        }
    }

    private static void examples() {
        UntilHeConfesses opera = new UntilHeConfesses();
        int murderer = opera.suspect(true, 3, 5);
        line("int murderer = opera.suspect(true, 3, 5);", murderer);
        int other = opera.suspect(false, 7, 6);
        line("int other = opera.suspect(false, 7, 6);", other);
        int aria = opera.scene(6, 3);
        line("int aria = opera.scene(6, 3);", aria);
        line("int shown = opera.night(1);", opera.night(1));
        line("int who = opera.book(0, 2);", opera.book(0, 2));
        line("opera.observe(murderer, aria, true);", opera.observe(murderer, aria, true));
        line("long upper = opera.share(murderer, false);", opera.share(murderer, false));
        line("long lower = opera.share(murderer, true);", opera.share(murderer, true));
        line("opera.undo();", opera.undo());
        String law = "guilt heat + total 3 of i - nerves; pays 20; night 2;";
        int text = read(opera, law);
        line("int text = read(opera, \"" + law + "\");", text);
        line("opera.by(text);", opera.by(text));
        line("int odds = opera.odds(murderer, aria, true);", opera.odds(murderer, aria, true));
        line("int done = opera.played(text);", opera.played(text));
        line("int takings = opera.is(1);", opera.is(1));
        line("int bad = read(opera, \"cut 7;\");", read(opera, "cut 7;"));
        line("int what = opera.fault(0);", opera.fault(0));
        line("int where = opera.fault(1);", opera.fault(1));
    }

    static int read(UntilHeConfesses opera, String text) {
        opera.end(0);
        for (int from = 0; from < text.length(); from += 20) {
            int[] fours = new int[5];
            for (int k = 0; k < 20; k++) {
                int sign = from + k < text.length() ? text.charAt(from + k) : ' ';
                fours[k / 4] = fours[k / 4] << 8 | sign;
            }
            opera.feed(fours[0], fours[1], fours[2], fours[3], fours[4]);
        }
        opera.end(text.length());
        return opera.text();
    }

    /** The reader in README.md is the one that this test uses. */
    private static void reader() throws IOException {
        String own = Files.readString(Path.of("src/test/java/ReadmeTest.java"), StandardCharsets.UTF_8);
        String head = "static int read(UntilHeConfesses opera, String text) {\n";
        int from = own.indexOf("    " + head);
        String used = own.substring(from, own.indexOf("\n    }\n", from) + 7).replaceAll("(?m)^    ", "");
        if (!readme.contains(used)) {
            wrong++;
            System.out.println("README.md's reader is another one");
        }
    }

    private static void table() {
        for (Method m : UntilHeConfesses.class.getDeclaredMethods()) {
            boolean told = readme.lines().anyMatch(l -> l.startsWith("| ") && l.contains("`" + m.getName() + "`"));
            if (Modifier.isPublic(m.getModifiers()) && !told) {
                wrong++;
                System.out.println("README.md's table has no " + m.getName());
            }
        }
    }
}
