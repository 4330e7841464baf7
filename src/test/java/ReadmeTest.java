import java.io.IOException;
import java.lang.reflect.Method;
import java.lang.reflect.Modifier;
import java.nio.file.Files;
import java.nio.file.Path;
import java.util.ArrayList;
import java.util.HashMap;
import java.util.List;
import java.util.Map;
import java.util.TreeSet;
import java.util.regex.Matcher;
import java.util.regex.Pattern;
import java.util.stream.Stream;

/** That README.md is right: its example, its table of calls, its codes, its orders, its list of tests. */
public final class ReadmeTest {
    /** A line of the example: perhaps a name for the answer, the call, and the answer that is told. */
    private static final Pattern LINE =
            Pattern.compile("(?:int (\\w+) = )?x\\.(\\w+)\\(([^)]*)\\); +// (-?\\d+)(: .*)?");

    private static int wrong = 0;

    public static void main(String[] args) throws IOException, ReflectiveOperationException {
        List<String> page = Files.readAllLines(Path.of("README.md"));
        example(page);
        tableOfCalls(page);
        codes(page);
        orders(page);
        tableOfTests(page);
        System.out.println(wrong == 0 ? "all is as due" : wrong + " things are not as due");
        if (wrong != 0) {
            System.exit(1);
        }
    }

    private static void due(String what, Object got, Object want) {
        if (!want.equals(got)) {
            wrong++;
            System.out.println(what + " is " + got + ", due is " + want);
        }
    }

    /** The words of the first column of the table under this heading, without their marks. */
    private static List<String> firstColumn(List<String> page, String heading) {
        List<String> column = new ArrayList<>();
        int row = page.indexOf(heading) + 2;
        due("the table " + heading, row > 1, true);
        while (row > 1 && row < page.size() && page.get(row).startsWith("| ")) {
            column.add(page.get(row).split("\\|")[1].trim().replace("`", ""));
            row++;
        }
        return column;
    }

    private static void example(List<String> page) throws ReflectiveOperationException {
        int row = page.indexOf("```java") + 1;
        due("the first line of the example", page.get(row), "ConferenceBridges x = new ConferenceBridges();");
        ConferenceBridges x = new ConferenceBridges();
        Map<String, Integer> names = new HashMap<>();
        int calls = 0;
        for (row++; !page.get(row).equals("```"); row++) {
            Matcher line = LINE.matcher(page.get(row));
            if (!line.matches()) {
                due("a line of the example", page.get(row), "a call and its answer");
                continue;
            }
            int answer = answerOf(x, line.group(2), line.group(3), names);
            due(page.get(row) + " the answer", answer, Integer.parseInt(line.group(4)));
            if (line.group(1) != null) {
                names.put(line.group(1), answer);
            }
            calls++;
        }
        due("whether the example has calls", calls > 0, true);
    }

    private static int answerOf(ConferenceBridges x, String name, String arguments, Map<String, Integer> names)
            throws ReflectiveOperationException {
        List<Object> values = new ArrayList<>();
        for (String a : arguments.isEmpty() ? new String[0] : arguments.split(", ")) {
            if (a.equals("true") || a.equals("false")) {
                values.add(a.equals("true"));
            } else {
                values.add(names.containsKey(a) ? names.get(a) : Integer.valueOf(a));
            }
        }
        for (Method m : ConferenceBridges.class.getDeclaredMethods()) {
            if (m.getName().equals(name)) {
                return (Integer) m.invoke(x, values.toArray());
            }
        }
        throw new NoSuchMethodException(name);
    }

    private static void tableOfCalls(List<String> page) {
        TreeSet<String> told = new TreeSet<>();
        for (String call : firstColumn(page, "| call | what it does |")) {
            String inside = call.substring(call.indexOf('(') + 1, call.indexOf(')'));
            int parameters = inside.isEmpty() ? 0 : inside.split(", ").length;
            told.add(call.substring(0, call.indexOf('(')) + " with " + parameters);
        }
        TreeSet<String> face = new TreeSet<>();
        for (Method m : ConferenceBridges.class.getDeclaredMethods()) {
            if (Modifier.isPublic(m.getModifiers())) {
                face.add(m.getName() + " with " + m.getParameterCount());
            }
        }
        due("the table of calls", told, face);
    }

    private static void codes(List<String> page) throws ReflectiveOperationException {
        List<String> told = firstColumn(page, "| answer | meaning |");
        List<String> real = new ArrayList<>(List.of("from 0"));
        for (String name : List.of("NONE", "BAD_INDEX", "BAD_VALUE", "BAD_STATE", "FULL", "WRONG_KIND")) {
            real.add(name + " (" + ConferenceBridges.class.getField(name).getInt(null) + ")");
        }
        due("the table of answers", told, real);
    }

    /** Each order, with 1 for each of its letters for numbers, has no fault; nor has the line of several. */
    private static void orders(List<String> page) {
        List<String> told = firstColumn(page, "| order | call |");
        due("the number of orders", told.size(), 6);
        for (String order : told) {
            due("the fault of " + order, faultOf(order.replaceAll("[a-z]", "1")), ConferenceBridges.NONE);
        }
        due("whether several orders are told", page.stream().anyMatch(l -> l.contains("`L0 40; R 0 5; T2`")), true);
        due("the fault of several orders", faultOf("L0 40; R 0 5; T2"), ConferenceBridges.NONE);
    }

    private static int faultOf(String text) {
        ConferenceBridges x = new ConferenceBridges();
        for (int i = 0; i < text.length(); i++) {
            x.type(text.charAt(i));
        }
        return x.textFault();
    }

    private static void tableOfTests(List<String> page) throws IOException {
        TreeSet<String> files = new TreeSet<>();
        try (Stream<Path> all = Files.list(Path.of("src/test/java"))) {
            all.forEach(f -> files.add(f.getFileName().toString().replace(".java", "")));
        }
        due("the table of tests", new TreeSet<>(firstColumn(page, "| test | what it looks at |")), files);
    }
}
