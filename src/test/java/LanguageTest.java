import java.io.IOException;
import java.lang.reflect.Field;
import java.lang.reflect.Method;
import java.lang.reflect.Modifier;
import java.nio.charset.StandardCharsets;
import java.nio.file.Files;
import java.nio.file.Path;
import java.util.ArrayList;
import java.util.Arrays;
import java.util.List;
import java.util.Map;
import java.util.Set;
import java.util.TreeMap;
import java.util.TreeSet;
import java.util.regex.Matcher;
import java.util.regex.Pattern;

/** The face of the class, and of the rules of LANGUAGE.md those that can be seen in the source or by reflection. */
public final class LanguageTest {
    private static final String SOURCE = "src/main/java/UntilHeConfesses.java";
    private static final List<String> FACE = List.of(
        "boolean by(int)", "boolean encore(int)", "boolean risk(int,int)", "boolean seat(int,int)", "boolean weight(int,int)",
        "int about(int)", "int ahead(int,int)", "int away(int)", "int back()", "int bestSeat(int,boolean)", "int book(int,int)",
        "int crying()", "int cut(int)", "int cuts(int)", "int empty(int)", "int end(int)", "int facing()", "int falseSigns()",
        "int fault(int)", "int feed(int,int,int,int,int)", "int firstSign(int)", "int foretold(int,int)", "int guess()",
        "int habit(int,int)", "int hottest()", "int image()", "int is(int)", "int lasts()", "int lonely()", "int night(int)",
        "int observe(int,int,boolean)", "int odds(int,int,boolean)", "int ofScene(int,int)", "int ofSuspect(int,int)",
        "int order(int,int,int)", "int orders()", "int played(int)", "int scene(int,int)", "int seasons(int,int)",
        "int seating(int,int)", "int sign(int,int,int)", "int signs(int,int)", "int sittings(boolean)", "int suspect(boolean,int,int)",
        "int suspected()", "int tellsMost()", "int text()", "int torn(int,int,boolean)", "int undo()", "int whose()", "int worth()",
        "long both(int,int,boolean)", "long claque(int,int,boolean)", "long share(int,boolean)", "long staysAway(int,int,int,int)",
        "long toRun(int,int,int,int,int)", "long unseen(int,boolean)");
    private static int wrong;

    public static void main(String[] args) throws IOException {
        face();
        classes();
        source(Files.readString(Path.of(SOURCE), StandardCharsets.ISO_8859_1));
        System.out.println(wrong == 0 ? "the face and the rules are kept" : wrong + " rules are broken");
        if (wrong != 0) {
            System.exit(1);
        }
    }

    private static void broken(boolean is, String what) {
        if (is) {
            wrong++;
            System.out.println(what);
        }
    }

    private static void face() {
        Class<?> c = UntilHeConfesses.class;
        broken(!Modifier.isPublic(c.getModifiers()) || !Modifier.isFinal(c.getModifiers()), "rule 1: public and final");
        broken(c.getDeclaredConstructors().length != 1 || c.getConstructors().length != 1, "rule 1: one constructor");
        Set<String> found = new TreeSet<>();
        for (Method m : c.getDeclaredMethods()) {
            if (Modifier.isPrivate(m.getModifiers())) {
                continue;
            }
            StringBuilder b = new StringBuilder(m.getReturnType() + " " + m.getName() + "(");
            for (Class<?> t : m.getParameterTypes()) {
                b.append(b.charAt(b.length() - 1) == '(' ? "" : ",").append(t);
            }
            found.add(b + ")");
        }
        broken(!found.equals(new TreeSet<>(FACE)), "rule 1: the methods are " + found);
        for (Field f : c.getDeclaredFields()) {
            broken(!Modifier.isPrivate(f.getModifiers()) && !f.getName().equals("NONE"), "rule 1: field " + f);
        }
    }

    private static void classes() {
        Set<String> names = new TreeSet<>();
        FACE.forEach(f -> names.add(f.substring(f.indexOf(' ') + 1, f.indexOf('('))));
        Class<?>[] inside = UntilHeConfesses.class.getDeclaredClasses();
        broken(inside.length > 12, "rule 11: classes");
        for (Class<?> c : inside) {
            broken(!Modifier.isStatic(c.getModifiers()), "rule 1: not static " + c);
            long fields = Arrays.stream(c.getDeclaredFields()).filter(f -> !Modifier.isStatic(f.getModifiers())).count();
            broken(fields > 20, "rule 11: fields of " + c);
            for (Method m : c.getDeclaredMethods()) {
                broken(names.contains(m.getName()), "rule 1: name of " + m);
                broken(m.getParameterCount() > 7, "rule 11: parameters of " + m);
                broken(m.isSynthetic(), "rule 2: lambda or bridge " + m);
            }
            for (Field f : c.getDeclaredFields()) {
                broken(Modifier.isStatic(f.getModifiers()) && !Modifier.isFinal(f.getModifiers()), "rule 5: " + f);
            }
        }
    }

    private static void source(String text) {
        broken(text.chars().anyMatch(sign -> sign > 126), "signs above 126");
        String bare = text.replaceAll("(?s)/\\*.*?\\*/", "").replaceAll("//[^\n]*", "").replaceAll("\"[^\"\n]*\"", "\"\"");
        for (String word : List.of("throw", "throws", "try", "catch", "finally", "synchronized", "assert", "import", "package",
                "transient", "volatile", "native", "Exception", "Error", "System", "Thread", "Object", "hashCode", "toString")) {
            broken(Pattern.compile("\\b" + word + "\\b").matcher(bare).find(), "rules 4, 6, 13: " + word);
        }
        for (String sign : List.of("->", "::", "@", "...", "instanceof")) {
            broken(bare.contains(sign), "rules 2, 6: " + sign);
        }
        Matcher library = Pattern.compile("\\b(Math|Integer|Long|Arrays)\\.(\\w+)").matcher(bare);
        while (library.find()) {
            broken(!List.of("abs", "max", "min", "floorMod").contains(library.group(2)), "rule 4: " + library.group());
        }
        broken(Pattern.compile("\\+ *\"|\" *\\+").matcher(bare).find(), "rule 10: texts joined by +");
        methods(text.split("\n"));
        depth(bare);
    }

    /** By names alone; a name that stands on the way already is recursion, and not gone into again. */
    private static void depth(String bare) {
        Map<String, String> bodies = new TreeMap<>();
        Pattern head = Pattern.compile("(?m)^( {4}| {8})(?:(?:public|private|static) )*[\\w\\[\\]]+ (\\w+)\\([^()]*\\) \\{\n((?s:.*?))^\\1\\}");
        Matcher m = head.matcher(bare.replaceAll("(?m)^ +(public )?static final .*;\n", ""));
        while (m.find()) {
            bodies.merge(m.group(2), m.group(3), String::concat);
        }
        broken(bodies.size() < 150, "rule 11: only " + bodies.size() + " methods were found");
        Map<String, Set<String>> calls = new TreeMap<>();
        bodies.forEach((name, body) -> {
            Set<String> found = new TreeSet<>();
            Pattern.compile("\\b(\\w+)\\(").matcher(body).results().map(r -> r.group(1)).filter(bodies::containsKey).forEach(found::add);
            calls.put(name, found);
        });
        for (String name : bodies.keySet()) {
            longest(calls, new ArrayList<>(List.of(name)));
        }
    }

    private static void longest(Map<String, Set<String>> calls, List<String> way) {
        if (way.size() > 8) {
            broken(true, "rule 11: calls too deep " + way);
            return;
        }
        for (String next : calls.get(way.get(way.size() - 1))) {
            if (!way.contains(next)) {
                way.add(next);
                longest(calls, way);
                way.remove(way.size() - 1);
            }
        }
    }

    private static void methods(String[] lines) {
        Pattern head = Pattern.compile("^( {4}| {8})(public |private |static |final )*[\\w\\[\\]]+ ?\\w*\\(.*\\) \\{$");
        for (int i = 0; i < lines.length; i++) {
            Matcher m = head.matcher(lines[i]);
            if (m.matches()) {
                int till = i;
                while (till < lines.length && !lines[till].equals(m.group(1) + "}")) {
                    till++;
                }
                broken(till - i > 60, "rule 11: long method at line " + (i + 1));
            }
        }
    }
}
