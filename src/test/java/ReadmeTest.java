import java.io.IOException;
import java.lang.reflect.Method;
import java.nio.file.Files;
import java.nio.file.Path;
import java.util.Set;
import java.util.TreeSet;
import java.util.regex.Matcher;
import java.util.regex.Pattern;
import java.util.stream.Collectors;
import java.util.stream.Stream;

/** README.md tells the calls and refusals that the document tells, and its examples hold. */
public final class ReadmeTest {
    private static final Checks CHECKS = new Checks("ReadmeTest");
    private static final Pattern ROW = Pattern.compile("(?m)^\\| `(\\w+)(\\([^`]*\\))` \\|.*\\|([^|\n]*)\\|$");
    private static final Pattern EXAMPLE = Pattern.compile("x\\.(\\w+)\\(([^)]*)\\);\\s+// (-?\\d+)(:.*)?");
    private static final Pattern REFUSAL = Pattern.compile("\\bBAD\\b|\\bNOT\\b|\\bFULL\\b|\\bSTATE\\b|-1[1-4]\\b");

    private ReadmeTest() {
    }

    public static void main(String[] args) throws IOException, ReflectiveOperationException {
        String readme = Files.readString(Path.of("README.md"));
        String document = Files.readString(Path.of("../shared/DOC.md"));
        callsAreTheDocuments(readme, document);
        refusalsAreTheDocuments(readme, document);
        examplesHold(readme);
        testsAreAll(readme);
        CHECKS.end();
    }

    private static void callsAreTheDocuments(String readme, String document) {
        Set<String> told = new TreeSet<>();
        Matcher face = Pattern.compile("public (?:int|long) (\\w+\\(.*\\));").matcher(document);
        while (face.find()) told.add(face.group(1));
        Set<String> listed = new TreeSet<>();
        Matcher row = ROW.matcher(readme);
        while (row.find()) listed.add(row.group(1) + row.group(2));
        CHECKS.due("calls told", told.size(), 38);
        CHECKS.isTrue("the calls are the told ones: " + told + " and " + listed, told.equals(listed));
    }

    private static void refusalsAreTheDocuments(String readme, String document) {
        Matcher row = ROW.matcher(readme);
        while (row.find()) {
            Matcher promise = Pattern.compile("`(?:int|long) " + row.group(1) + "\\(.*").matcher(document);
            boolean found = promise.find();
            CHECKS.isTrue("a promise of " + row.group(1), found);
            if (found) {
                Set<String> told = refusals(promise.group());
                Set<String> listed = refusals(row.group(3));
                CHECKS.isTrue("refusals of " + row.group(1) + ": " + told + " and " + listed, told.equals(listed));
            }
        }
    }

    /** Where all refusals are one long, that one. */
    private static Set<String> refusals(String words) {
        if (words.contains("Long.MIN_VALUE")) return Set.of("Long.MIN_VALUE");
        Set<String> all = new TreeSet<>();
        Matcher refusal = REFUSAL.matcher(words);
        while (refusal.find()) all.add(refusal.group());
        return all;
    }

    private static void examplesHold(String readme) throws ReflectiveOperationException {
        Matcher block = Pattern.compile("(?s)```java\n(.*?)```").matcher(readme);
        while (block.find()) {
            ThreeThrough x = new ThreeThrough();
            for (String line : block.group(1).split("\n")) {
                if (line.equals("ThreeThrough x = new ThreeThrough();")) continue;
                Matcher example = EXAMPLE.matcher(line);
                boolean told = example.matches();
                CHECKS.isTrue("an example with its answer: " + line, told);
                if (told) {
                    long answer = ask(x, example.group(1), example.group(2));
                    CHECKS.due(line, answer, Long.parseLong(example.group(3)));
                }
            }
        }
    }

    private static long ask(ThreeThrough x, String name, String told) throws ReflectiveOperationException {
        for (Method method : ThreeThrough.class.getMethods()) {
            if (!method.getName().equals(name)) continue;
            String[] words = told.isEmpty() ? new String[0] : told.split(", ");
            Object[] values = new Object[words.length];
            for (int i = 0; i < words.length; i++) {
                long v = words[i].startsWith("'") ? words[i].charAt(1) : Long.parseLong(words[i]);
                boolean wide = method.getParameterTypes()[i] == long.class;
                values[i] = wide ? (Object) v : (Object) Math.toIntExact(v);
            }
            return ((Number) method.invoke(x, values)).longValue();
        }
        throw new NoSuchMethodException(name);
    }

    private static void testsAreAll(String readme) throws IOException {
        Set<String> there;
        try (Stream<Path> files = Files.list(Path.of("src/test/java"))) {
            there = files.map(file -> file.getFileName().toString()).filter(name -> name.endsWith("Test.java"))
                .map(name -> name.replace(".java", "")).collect(Collectors.toCollection(TreeSet::new));
        }
        Set<String> listed = new TreeSet<>();
        Matcher row = Pattern.compile("(?m)^\\| (\\w+Test) \\|").matcher(readme);
        while (row.find()) listed.add(row.group(1));
        CHECKS.isTrue("the tests are those that are there: " + there + " and " + listed, there.equals(listed));
    }
}
