import java.io.IOException;
import java.lang.reflect.Method;
import java.lang.reflect.Modifier;
import java.nio.file.Files;
import java.nio.file.Path;
import java.util.ArrayList;
import java.util.HashMap;
import java.util.List;
import java.util.Map;
import java.util.Set;
import java.util.TreeSet;
import java.util.regex.Matcher;
import java.util.regex.Pattern;

/** README.md against the class: its example is run, its tables are compared with what calls answer. */
public final class ReadmeHolds {
    private static final Pattern MADE = Pattern.compile("MapLife (\\w+) = new MapLife\\(\\);");
    private static final Pattern LETTERS = Pattern.compile("for \\(char letter : \"(.*)\"\\.toCharArray\\(\\)\\) \\{");
    private static final Pattern WRITTEN = Pattern.compile("(\\w+)\\.write\\(letter\\);.*");
    private static final Pattern CALL = Pattern.compile("(\\w+)\\.(\\w+)\\((.*)\\); +// (-?\\w+).*");
    private static final Pattern ROW = Pattern.compile("\\| `(int|long) (\\w+)\\((.*)\\)` \\|(.*)\\|(.*)\\|");
    private static final Pattern CONSTANT = Pattern.compile("\\| `([A-Z]+)` \\| (-\\d+) \\|.*");
    private static final Pattern GOODS = Pattern.compile("\\| (\\d) \\| \\w+ \\| [\\w: ]+ \\| (\\d) \\| (\\d|no error) \\|");
    private static final Pattern TOLD = Pattern.compile("`([A-Z]+)`");
    private static final int[] NUMBERS = {Integer.MIN_VALUE, -1, 0, 1, 2, 3, 4, 5, 6, 7, 8, 9, 10, 11, 12, 30, 31,
        33, 255, 256, Integer.MAX_VALUE};
    private static int wrong = 0;
    private static int calls = 0;

    private static void due(String what, boolean holds) {
        if (!holds) {
            wrong++;
            System.out.println("not so: " + what);
        }
    }

    private static Map<String, Method> face() {
        Map<String, Method> face = new HashMap<>();
        for (Method m : MapLife.class.getDeclaredMethods()) {
            if (Modifier.isPublic(m.getModifiers())) {
                face.put(m.getName(), m);
            }
        }
        return face;
    }

    private static Long constant(String name) {
        try {
            return (long) MapLife.class.getField(name).getInt(null);
        } catch (ReflectiveOperationException e) {
            return null;
        }
    }

    private static long ask(MapLife life, Method call, Object... values) {
        calls++;
        try {
            return ((Number) call.invoke(life, values)).longValue();
        } catch (ReflectiveOperationException e) {
            throw new IllegalStateException(call + " threw", e);
        }
    }

    private static Object[] values(Method call, String told) {
        String[] parts = told.isEmpty() ? new String[0] : told.split(", ");
        Class<?>[] types = call.getParameterTypes();
        if (parts.length != types.length) {
            return null;
        }
        Object[] values = new Object[parts.length];
        for (int i = 0; i < parts.length; i++) {
            values[i] = types[i] == boolean.class ? (Object) Boolean.valueOf(parts[i])
                    : types[i] == long.class ? (Object) Long.valueOf(parts[i]) : (Object) Integer.valueOf(parts[i]);
        }
        return values;
    }

    private static void example(List<String> lines, Map<String, Method> face) {
        Map<String, MapLife> lives = new HashMap<>();
        Set<String> asked = new TreeSet<>();
        String text = "";
        boolean inExample = false;
        for (String line : lines) {
            if (line.startsWith("```")) {
                inExample = line.equals("```java");
                continue;
            }
            String told = line.trim();
            if (!inExample || told.isEmpty() || told.equals("}")) {
                continue;
            }
            Matcher m = MADE.matcher(told);
            if (m.matches()) {
                lives.put(m.group(1), new MapLife());
                continue;
            }
            m = LETTERS.matcher(told);
            if (m.matches()) {
                text = m.group(1);
                continue;
            }
            m = WRITTEN.matcher(told);
            if (m.matches() && lives.get(m.group(1)) != null) {
                for (char letter : text.toCharArray()) {
                    lives.get(m.group(1)).write(letter);
                }
                asked.add("write");
                continue;
            }
            m = CALL.matcher(told);
            if (!m.matches() || lives.get(m.group(1)) == null || face.get(m.group(2)) == null) {
                due("an example that can be run: " + line, false);
                continue;
            }
            Method call = face.get(m.group(2));
            Object[] values = values(call, m.group(3));
            Long want = constant(m.group(4)) != null ? constant(m.group(4)) : Long.valueOf(m.group(4));
            due(line.trim(), values != null && ask(lives.get(m.group(1)), call, values) == want);
            asked.add(call.getName());
        }
        due("the example has thirty calls or more, of most names: " + asked, calls >= 30 && asked.size() >= 20);
    }

    private static void constants(List<String> lines) {
        Set<String> seen = new TreeSet<>();
        for (String line : lines) {
            Matcher m = CONSTANT.matcher(line);
            if (m.matches()) {
                seen.add(m.group(1));
                due(line, Long.valueOf(m.group(2)).equals(constant(m.group(1))));
            }
        }
        due("all constants are there: " + seen, seen.equals(Set.of("UNKNOWN", "BAD", "LATE", "FULL", "NONE")));
    }

    private static void tables(List<String> lines, Map<String, Method> face) {
        Set<String> seen = new TreeSet<>();
        for (String line : lines) {
            Matcher m = ROW.matcher(line);
            if (!m.matches()) {
                continue;
            }
            Method call = face.get(m.group(2));
            due("a row for each call: " + m.group(2), call != null && seen.add(m.group(2)));
            if (call == null) {
                continue;
            }
            due("as it is declared: " + m.group(2), call.getReturnType().getName().equals(m.group(1))
                    && types(call).equals(m.group(3).replaceAll(" \\w+(, |$)", "$1")));
            if (call.getReturnType() == int.class) {
                refusals(call, m.group(4), m.group(5));
            } else {
                due("it refuses nothing: " + m.group(2), m.group(5).isBlank());
            }
        }
        due("all calls are there: " + seen, seen.equals(face.keySet()));
    }

    /** The table of SORTS: what a SIGN gives on LAND of its own SORT, and on any other. */
    private static void goods(List<String> lines) {
        int rows = 0;
        for (String line : lines) {
            Matcher m = GOODS.matcher(line);
            if (!m.matches()) {
                continue;
            }
            int sort = Integer.parseInt(m.group(1));
            rows++;
            for (int land = 0; land <= 4; land++) {
                MapLife life = new MapLife();
                for (char letter : ("M0" + land + "00000000000" + (sort == 0 ? "" : "Da" + sort)).toCharArray()) {
                    life.write(letter);
                }
                life.map();
                boolean isError = sort != 0 && sort != land;
                String want = isError ? m.group(3) : m.group(2);
                due(line + " on land " + land, want.equals("" + life.cell(0, 2)) && life.about(6) == (isError ? 1 : 0));
            }
        }
        due("a row for each sort", rows == 5);
    }

    private static String types(Method call) {
        StringBuilder s = new StringBuilder();
        for (Class<?> type : call.getParameterTypes()) {
            s.append(s.length() == 0 ? "" : ", ").append(type.getName());
        }
        return s.toString();
    }

    /** What is less than 0 in many lives and by many values: just what the row names. */
    private static void refusals(Method call, String answer, String refused) {
        Set<Long> named = new TreeSet<>();
        Matcher m = TOLD.matcher(refused);
        while (m.find()) {
            named.add(constant(m.group(1)));
        }
        if (answer.contains("`NONE`")) {
            named.add((long) MapLife.NONE);
        }
        Set<Long> seen = new TreeSet<>();
        List<Object[]> all = new ArrayList<>();
        allValues(call, new Object[call.getParameterCount()], 0, all);
        for (int kind = 0; kind < 6; kind++) {
            for (Object[] values : all) {
                long got = ask(life(kind), call, values);
                if (got < 0) {
                    seen.add(got);
                }
            }
        }
        due(call.getName() + " refuses by " + seen + ", its row names " + named, seen.equals(named));
    }

    private static void allValues(Method call, Object[] values, int place, List<Object[]> all) {
        if (place == values.length) {
            all.add(values.clone());
        } else if (call.getParameterTypes()[place] == boolean.class) {
            for (int i = 0; i < 2; i++) {
                values[place] = i == 1;
                allValues(call, values, place + 1, all);
            }
        } else {
            // With more numbers to a call each may come from fewer.
            int step = values.length > 4 ? 3 : 1;
            for (int i = 0; i < NUMBERS.length; i += step) {
                values[place] = NUMBERS[i];
                allValues(call, values, place + 1, all);
            }
        }
    }

    private static MapLife life(int kind) {
        String[] texts = {"", "M5012004301000Db1Dc3De2Df2", "M0012004301000Db1Dc3De2Df2",
            "M9111122223333Da1Db1Dc1Dd1De2Df2Dg2Dh3", "M1000000000000Da4D", "M5111111111111Da1Db4De4"};
        MapLife life = new MapLife();
        for (char letter : texts[kind].toCharArray()) {
            life.write(letter);
        }
        life.map();
        if (kind == 3) {
            while (life.write('x') >= 0) {
                calls++;
            }
            life.rest();
            life.keep(1);
        }
        return life;
    }

    public static void main(String[] args) throws IOException {
        Path root = Path.of(args.length > 0 ? args[0] : ".");
        List<String> lines = Files.readAllLines(root.resolve("README.md"));
        Map<String, Method> face = face();
        example(lines, face);
        constants(lines);
        goods(lines);
        tables(lines, face);
        for (String line : lines) {
            due("a line that is too long: " + line, line.length() <= 100 || line.startsWith("|"));
        }
        try (var tests = Files.list(root.resolve("src/test/java"))) {
            String all = String.join("\n", lines);
            tests.forEach(t -> due("README.md names " + t.getFileName(), all.contains("`" + t.getFileName() + "`")));
        }
        System.out.println(calls + " calls by README.md, " + wrong + " not so");
        if (wrong != 0) {
            System.exit(1);
        }
    }
}
