import java.lang.reflect.Field;
import java.lang.reflect.Method;
import java.lang.reflect.Modifier;
import java.nio.file.Files;
import java.nio.file.Path;
import java.util.ArrayList;
import java.util.List;
import java.util.Set;
import java.util.TreeSet;
import java.util.regex.Pattern;

/** The face by reflection, and what can be seen of ../shared/LANGUAGE.md in the source. */
public final class LanguageTest {
    private static final String[] FACE = {"feed int int int int int int", "city int int", "fault int", "count int int",
        "roof int int int", "flight int int int", "owl int int int", "stop int int int int", "rider int int int",
        "where int int int", "obey boolean int", "moon int int", "wet boolean boolean", "nest boolean int boolean",
        "grain int int int", "start int int int", "undo int", "home int int", "changes int int", "cheapest int int",
        "last int int", "never int", "lure int int int", "more int int", "beams int int int int", "straps int int",
        "worth int int", "vital int", "see int int int int", "forget void", "fits int", "watch int int", "bats int int",
        "years int int int int", "reach int int int", "late int int", "best int", "bright int", "hunter int",
        "image void", "restore boolean"};

    public static void main(String[] args) throws Exception {
        face();
        for (Class<?> inner : WingTrams.class.getDeclaredClasses()) {
            inside(inner);
        }
        Check.same("classes", true, WingTrams.class.getDeclaredClasses().length < 12);
        List<String> lines = Files.readAllLines(Path.of("src/main/java/WingTrams.java"));
        printedFace(lines);
        words(lines);
        lengths(lines);
        objects(lines);
        Check.end();
    }

    private static Set<String> publicNames() {
        Set<String> names = new TreeSet<>();
        for (String method : FACE) {
            names.add(method.split(" ")[0]);
        }
        return names;
    }

    private static void face() {
        Set<String> due = new TreeSet<>(List.of(FACE));
        Set<String> got = new TreeSet<>();
        for (Method m : WingTrams.class.getDeclaredMethods()) {
            if (Modifier.isPublic(m.getModifiers())) {
                StringBuilder text = new StringBuilder(m.getName() + " " + m.getReturnType());
                for (Class<?> type : m.getParameterTypes()) {
                    text.append(' ').append(type);
                }
                got.add(text.toString());
                Check.same("static " + m, false, Modifier.isStatic(m.getModifiers()));
            } else {
                Check.same("private " + m, true, Modifier.isPrivate(m.getModifiers()));
                Check.same("its name " + m, false, publicNames().contains(m.getName()));
            }
        }
        Check.same("the face, due is " + due + ", is " + got, true, due.equals(got));
        for (Field f : WingTrams.class.getDeclaredFields()) {
            Check.same("field " + f, !f.getName().equals("NONE"), Modifier.isPrivate(f.getModifiers()));
        }
        Check.same("constructors", 1, WingTrams.class.getDeclaredConstructors().length);
        Check.same("public", Modifier.PUBLIC | Modifier.FINAL, WingTrams.class.getModifiers());
        fields(WingTrams.class);
    }

    /** That what the document prints as the public face stands in the source, word by word. */
    private static void printedFace(List<String> lines) {
        String source = String.join(" ", lines).replaceAll("\\s+", " ");
        List<String> face = Document.face();
        for (String line : face) {
            String due = line.endsWith(");") || line.contains(" throws ") ? line.replace(";", " {") : line;
            Check.same("in the source: " + line, true, source.contains(due));
        }
        // The import, the class, its constant and its constructor stand ahead of the methods.
        Check.same("lines of the face", 4 + FACE.length, face.size());
    }

    private static void inside(Class<?> inner) {
        Check.same("static " + inner, true, Modifier.isStatic(inner.getModifiers()));
        for (Method m : inner.getDeclaredMethods()) {
            Check.same("its name " + m, false, publicNames().contains(m.getName()));
            Check.same("parameters " + m, true, m.getParameterCount() <= 7);
        }
        fields(inner);
    }

    private static void fields(Class<?> of) {
        int many = 0;
        for (Field f : of.getDeclaredFields()) {
            boolean constant = Modifier.isStatic(f.getModifiers());
            many += constant ? 0 : 1;
            Check.same("static and final " + f, true, !constant || Modifier.isFinal(f.getModifiers()));
        }
        Check.same("fields of " + of, true, many <= 20);
    }

    private static void words(List<String> lines) {
        Pattern outside = Pattern.compile("->|::|\\bfinally\\b|\\bsynchronized\\b|\\bassert\\b|\\bcatch\\b|\\bdouble\\b"
            + "|\\bfloat\\b|\\bSystem\\b|\\bThread\\b|static \\{|\"\\s*\\+|\\+\\s*\"|Exact\\(|\\bInteger\\.MAX|\\bRandom\\b");
        for (String line : lines) {
            String code = line.replaceAll("//.*|^ *[/*]?\\*.*", "");
            Check.same(line, false, outside.matcher(code).find());
            Check.same(line, true, !line.startsWith("import") || line.equals("import java.util.NoSuchElementException;"));
            Check.same(line, true, line.chars().allMatch(c -> c >= 32 && c < 127) && line.length() <= 120);
        }
    }

    /** A method ends with the brace that stands as far in as its first line. */
    private static void lengths(List<String> lines) {
        Pattern head = Pattern.compile("^( {4}| {8})[A-Za-z].*\\)[^;]*\\{$");
        List<String> longOnes = new ArrayList<>();
        for (int i = 0; i < lines.size(); i++) {
            if (head.matcher(lines.get(i)).matches()) {
                String end = lines.get(i).replaceAll("\\S.*", "") + "}";
                int to = i;
                while (to < lines.size() && !lines.get(to).equals(end)) {
                    to++;
                }
                if (to - i > 60) {
                    longOnes.add(lines.get(i));
                }
            }
        }
        Check.same("long methods " + longOnes, 0, longOnes.size());
    }

    /** Objects are made by constructors alone, and to be thrown. */
    private static void objects(List<String> lines) {
        Pattern constructor = Pattern.compile("^ +(public )?[A-Z][A-Za-z]*\\(.*\\{$");
        boolean inConstructor = false;
        for (String line : lines) {
            inConstructor |= constructor.matcher(line).matches();
            inConstructor &= !line.isBlank();
            boolean makes = Pattern.compile("\\bnew\\b").matcher(line.replaceAll("throw new|//.*|^ *[/*]?\\*.*", "")).find();
            Check.same(line, true, !makes || inConstructor);
        }
    }
}
