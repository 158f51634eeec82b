import java.lang.reflect.Method;
import java.lang.reflect.Modifier;
import java.nio.file.Files;
import java.nio.file.Path;
import java.util.ArrayList;
import java.util.List;
import java.util.Set;
import java.util.TreeSet;
import java.util.regex.Matcher;
import java.util.regex.Pattern;
import java.util.stream.Stream;

/** What README.md shows is so: each call answers what stands behind it, and no call or test is left out. */
public final class PiperHouseReadme {
    private static final Path PAGE = Path.of("README.md");
    private static final Path TESTS = Path.of("src/test/java");
    private static final String NEW_HOUSE = "PiperHouse house = new PiperHouse();";
    private static final Pattern CALL = Pattern.compile("house\\.(\\w+)\\(([^)]*)\\); +// (-?\\d+)(:.*)?");

    private static int wrong = 0;

    private static void complain(String what) {
        wrong++;
        System.out.println(what);
    }

    public static void main(String[] args) throws Exception {
        List<String> lines = Files.readAllLines(PAGE);
        int shown = examples(lines);
        testsAreNamed(lines);
        System.out.println(wrong == 0 ? shown + " calls of README.md are as shown" : wrong + " are not as due");
        if (wrong != 0) {
            System.exit(1);
        }
    }

    private static int examples(List<String> lines) throws Exception {
        Set<String> unseen = new TreeSet<>();
        for (Method m : PiperHouse.class.getDeclaredMethods()) {
            if (Modifier.isPublic(m.getModifiers())) {
                unseen.add(m.getName());
            }
        }
        PiperHouse house = null;
        boolean inside = false;
        int shown = 0;
        for (String line : lines) {
            if (line.startsWith("```")) {
                inside = line.equals("```java");
                house = null;
            } else if (inside && line.equals(NEW_HOUSE)) {
                house = new PiperHouse();
            } else if (inside) {
                unseen.remove(example(house, line));
                shown++;
            }
        }
        if (!unseen.isEmpty()) {
            complain("README.md shows no call of " + unseen);
        }
        return shown;
    }

    /** Runs one line and answers the name of the call. */
    private static String example(PiperHouse house, String line) throws Exception {
        Matcher call = CALL.matcher(line);
        if (house == null || !call.matches()) {
            complain("no call with its answer: " + line);
            return "";
        }
        List<Object> numbers = new ArrayList<>();
        for (String word : call.group(2).split(", *")) {
            if (!word.isEmpty()) {
                numbers.add(Integer.decode(word));
            }
        }
        for (Method m : PiperHouse.class.getDeclaredMethods()) {
            if (m.getName().equals(call.group(1)) && m.getParameterCount() == numbers.size()) {
                Object got = m.invoke(house, numbers.toArray());
                if (!got.equals(Integer.valueOf(call.group(3)))) {
                    complain("answered " + got + ": " + line);
                }
                return m.getName();
            }
        }
        complain("no such call: " + line);
        return "";
    }

    private static void testsAreNamed(List<String> lines) throws Exception {
        try (Stream<Path> files = Files.list(TESTS)) {
            for (Path file : (Iterable<Path>) files::iterator) {
                String start = "- `" + file.getFileName().toString().replace(".java", "") + "`: ";
                if (lines.stream().noneMatch(line -> line.startsWith(start))) {
                    complain("README.md does not name the test " + file);
                }
            }
        }
    }
}
