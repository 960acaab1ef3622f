import java.io.IOException;
import java.lang.reflect.Constructor;
import java.lang.reflect.Field;
import java.lang.reflect.Method;
import java.lang.reflect.Modifier;
import java.nio.file.Files;
import java.nio.file.Path;
import java.util.ArrayList;
import java.util.Arrays;
import java.util.HashSet;
import java.util.List;
import java.util.Set;
import java.util.TreeSet;
import java.util.regex.Matcher;
import java.util.regex.Pattern;

/** What of LANGUAGE.md can be seen from the class and from its source. */
public final class LanguageRules {
    private static int wrong = 0;

    private static void due(String what, boolean holds) {
        if (!holds) {
            wrong++;
            System.out.println("not so: " + what);
        }
    }

    private static final String FACE = "write(int)int wipe()int fault()int map()int about(int)int cell(int,int)int "
            + "go(int)int rest()int draw(int,int)int rub(int)int undo()int road(int,boolean,boolean)int "
            + "most(int,boolean)int mends(int)int draws(int)int judge(int,int)int starts(int,int,int)int "
            + "share(int,boolean)int rests(int)int chance(int,int,int,int,boolean)int seed(long)long "
            + "years(int)int keep(int)int again(int)int";

    private static void face() {
        Set<String> wanted = new TreeSet<>(Arrays.asList(FACE.split(" ")));
        Set<String> found = new TreeSet<>();
        Set<String> publicNames = new HashSet<>();
        for (Method m : MapLife.class.getDeclaredMethods()) {
            if (!Modifier.isPrivate(m.getModifiers())) {
                StringBuilder s = new StringBuilder(m.getName()).append('(');
                for (Class<?> p : m.getParameterTypes()) {
                    s.append(s.charAt(s.length() - 1) == '(' ? "" : ",").append(p.getName());
                }
                found.add(s.append(')').append(m.getReturnType().getName()).toString());
                publicNames.add(m.getName());
                due("public " + m.getName(), m.getModifiers() == Modifier.PUBLIC);
            }
        }
        due("the face is " + found, found.equals(wanted));
        for (Field f : MapLife.class.getDeclaredFields()) {
            due("private, or a constant: " + f, Modifier.isPrivate(f.getModifiers())
                    || "UNKNOWN BAD LATE FULL NONE".contains(f.getName()) && Modifier.isStatic(f.getModifiers()));
        }
        List<Class<?>> classes = new ArrayList<>(Arrays.asList(MapLife.class.getDeclaredClasses()));
        for (Class<?> c : classes) {
            due("static, not public: " + c, Modifier.isStatic(c.getModifiers()) && !Modifier.isPublic(c.getModifiers()));
        }
        classes.add(MapLife.class);
        due("at most twelve classes", classes.size() <= 12);
        for (Class<?> c : classes) {
            members(c, publicNames);
        }
        due("final", Modifier.isFinal(MapLife.class.getModifiers()));
        Constructor<?>[] made = MapLife.class.getDeclaredConstructors();
        due("one public constructor without parameters", made.length == 1
                && made[0].getParameterCount() == 0 && Modifier.isPublic(made[0].getModifiers()));
    }

    private static void members(Class<?> c, Set<String> publicNames) {
        int fields = 0;
        for (Field f : c.getDeclaredFields()) {
            boolean isStatic = Modifier.isStatic(f.getModifiers());
            fields += isStatic ? 0 : 1;
            due("static fields are final: " + f, !isStatic || Modifier.isFinal(f.getModifiers()));
        }
        due("at most twenty fields: " + c, fields <= 20);
        for (Method m : c.getDeclaredMethods()) {
            due("seven parameters: " + m, m.getParameterCount() <= 7);
            due("no public one's name: " + m, Modifier.isPublic(m.getModifiers()) || !publicNames.contains(m.getName()));
        }
    }

    private static void source(String code) {
        String[] no = {"throw", "try", "catch", "finally", "synchronized", "assert", "import", "package",
            "->", "::", "System\\.", "Object", "Exact", "double", "float", "@", "native", "volatile", "hashCode",
            "toString", "protected", "\\?\\?", "var ", "while *\\( *true", "for *\\( *; *;"};
        for (String s : no) {
            boolean isWord = Character.isLetter(s.charAt(0)) && Character.isLetter(s.charAt(s.length() - 1));
            Matcher m = Pattern.compile(isWord ? "\\b" + s + "\\b" : s).matcher(code);
            due("there is no " + s, !m.find());
        }
        Matcher dotted = Pattern.compile("\\b(Math|Integer|Long|Arrays|String|List)\\.(\\w+)").matcher(code);
        while (dotted.find()) {
            due("the library: " + dotted.group(),
                    Set.of("Math.max", "Math.min", "Math.abs", "Integer.bitCount").contains(dotted.group()));
        }
    }

    /** Every method is short, and only the constructors of the objects make something. */
    private static void lengths(String code) {
        String[] lines = code.split("\n");
        int from = -1;
        String indent = "";
        for (int i = 0; i < lines.length; i++) {
            Matcher m = Pattern.compile("^( {4}| {8})[\\w\\[\\]]+.*\\(.*\\) \\{$").matcher(lines[i]);
            if (m.find() && from < 0) {
                from = i;
                indent = m.group(1);
            }
            boolean isMade = lines[i].contains("new ");
            boolean inMaker = from >= 0 && lines[from].matches(" *(public )?(MapLife|Text|Acts|Life)\\(.*|.* chainOf\\(.*");
            due("no object is made by a call: " + lines[i], !isMade || inMaker || lines[i].contains(" final "));
            if (from >= 0 && lines[i].equals(indent + "}")) {
                due("a short method: " + lines[from], i - from < 60);
                from = -1;
            }
        }
    }

    public static void main(String[] args) throws IOException {
        face();
        Path root = Path.of(args.length > 0 ? args[0] : ".");
        String all = Files.readString(root.resolve("src/main/java/MapLife.java"));
        String code = all.replaceAll("(?s)/\\*.*?\\*/", "").replaceAll("//[^\n]*", "");
        due("the source is there", code.contains("public final class MapLife {"));
        source(code);
        lengths(code);
        System.out.println(wrong == 0 ? "the rules seen here hold" : wrong + " rules do not hold");
        if (wrong != 0) {
            System.exit(1);
        }
    }
}
