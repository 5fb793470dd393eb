import java.lang.reflect.Field;
import java.lang.reflect.Method;
import java.lang.reflect.Modifier;
import java.nio.file.Files;
import java.nio.file.Path;
import java.util.ArrayList;
import java.util.Arrays;
import java.util.HashSet;
import java.util.List;
import java.util.Set;
import java.util.TreeSet;
import java.util.regex.Matcher;
import java.util.regex.Pattern;

/** The public face, and those rules of LANGUAGE.md that can be seen from the source or by reflection. */
public final class LanguageTest {
    private static final String FACE = "station int,int,int int|driver int,int,int,int int|cost int,int int"
            + "|late int,int int|feed int,int,int,int,int int|rules int,int int|law int int|fault int int|run int int"
            + "|price int int|board int,int int|would int int|of int,int long|fills int int|round  int"
            + "|leads int,boolean int|passed int,int,boolean boolean|upper  long|lower  long|level int int"
            + "|gain int,int,int,int,boolean int|reply int,int,int int|even int,int,int int|joint int,int int"
            + "|turn int,int,int,int,int int|gains int,int,int,int,boolean long|learn int,int,int,int int"
            + "|above int,int,int,int int|punish int,int,int,int,int int|story int,int boolean|rise int,int,int int"
            + "|odds  void|fill int,int,int,int int|told int,int,int,int int|fit int int|tray int,int,int void"
            + "|write int,int,long long|image int void|restore int void|count int long";
    private static final String[] FORBIDDEN = {"\\bcatch\\b", "\\btry\\b", "\\bfinally\\b", "->", "::",
        "\\bsynchronized\\b", "\\bassert\\b", "\\bnew Thread\\b", "\\bSystem\\.(?!arraycopy)", "Exact\\(",
        "\\bnative\\b", "\\bvolatile\\b", "\\bpackage\\b", "\\bdouble\\b", "\\bfloat\\b", "\\bhashCode\\b",
        "\\bstatic \\{", "\"\\s*\\+", "\\+\\s*\"", "\\bwhile \\(true\\)", "for \\(;;\\)", "\\bvar\\b",
        "\\bprotected\\b", "\\[\\]\\[\\]\\["};

    private static final Checks c = new Checks();

    public static void main(String[] args) throws Exception {
        String source = Files.readString(Path.of("src/main/java/PumpCrossing.java"));
        face();
        members();
        words(source);
        lengths(source);
        c.end();
    }

    private static void face() {
        Set<String> want = new TreeSet<>(Arrays.asList(FACE.split("\\|")));
        Set<String> got = new TreeSet<>();
        Set<String> names = new HashSet<>();
        for (Method m : PumpCrossing.class.getDeclaredMethods()) {
            if (!Modifier.isPrivate(m.getModifiers())) {
                c.due("public: " + m.getName(), Modifier.isPublic(m.getModifiers()), true);
                List<String> types = new ArrayList<>();
                for (Class<?> p : m.getParameterTypes()) {
                    types.add(p.getSimpleName());
                }
                got.add(m.getName() + " " + String.join(",", types) + " " + m.getReturnType().getSimpleName());
                names.add(m.getName());
            }
        }
        c.due("the face is " + got + ", due " + want, got.equals(want), true);
        for (Method m : PumpCrossing.class.getDeclaredMethods()) {
            boolean both = Modifier.isPrivate(m.getModifiers()) && names.contains(m.getName());
            c.due("private and public: " + m.getName(), both, false);
        }
        for (Field f : PumpCrossing.class.getDeclaredFields()) {
            c.due("field " + f.getName(), Modifier.isPrivate(f.getModifiers()) || f.getName().equals("NONE"), true);
        }
        c.due("final", Modifier.isFinal(PumpCrossing.class.getModifiers()), true);
        c.due("constructors", PumpCrossing.class.getDeclaredConstructors().length, 1);
        c.due("public constructors", PumpCrossing.class.getConstructors().length, 1);
    }

    private static void members() {
        List<Class<?>> all = new ArrayList<>(List.of(PumpCrossing.class.getDeclaredClasses()));
        all.add(PumpCrossing.class);
        c.due("classes, at most some twelve: " + all.size(), all.size() <= 12, true);
        for (Class<?> k : all) {
            int fields = 0;
            for (Field f : k.getDeclaredFields()) {
                fields += Modifier.isStatic(f.getModifiers()) ? 0 : 1;
                boolean changing = Modifier.isStatic(f.getModifiers()) && !Modifier.isFinal(f.getModifiers());
                c.due("static and not final: " + f, changing, false);
            }
            c.due("fields of " + k + ": " + fields, fields <= 20, true);
            for (Method m : k.getDeclaredMethods()) {
                c.due("parameters of " + m, m.getParameterCount() <= 7, true);
            }
        }
    }

    private static void words(String source) {
        for (String word : FORBIDDEN) {
            Matcher m = Pattern.compile(word).matcher(source);
            c.due("forbidden: " + word, m.find(), false);
        }
        Matcher imports = Pattern.compile("import ([^;]+);").matcher(source);
        while (imports.find()) {
            c.due("import " + imports.group(1), imports.group(1).equals("java.util.NoSuchElementException"), true);
        }
        Matcher thrown = Pattern.compile("throw ([^;]+);").matcher(source);
        String form = "new (IllegalState|IllegalArgument|IndexOutOfBounds|NoSuchElement)Exception\\(\"[^\"]*\"\\)";
        while (thrown.find()) {
            c.due("throw " + thrown.group(1), thrown.group(1).matches(form), true);
        }
        for (int k = 0; k < source.length(); k++) {
            c.due("sign at " + k, source.charAt(k) < 128, true);
        }
    }

    /** A method begins with a line that ends in a brace at the indent of a class's members. */
    private static void lengths(String source) {
        String[] lines = source.split("\n");
        int from = -1;
        String indent = "";
        for (int k = 0; k < lines.length; k++) {
            Matcher begin = Pattern.compile("^( {4}| {8})(?! |\\}).*\\) ?(throws .*)?\\{$").matcher(lines[k]);
            Matcher threw = Pattern.compile("^ {12}throws .*\\{$").matcher(lines[k]);
            if (from < 0 && (begin.find() || threw.find())) {
                from = k;
                indent = lines[k].startsWith("        ") && !lines[k].startsWith("            ") ? "        " : "    ";
            } else if (from >= 0 && lines[k].equals(indent + "}")) {
                c.due("lines of the method at " + (from + 1), k - from < 60, true);
                from = -1;
            }
        }
        c.due("each method ends", from, -1);
    }
}
