import java.io.IOException;
import java.nio.file.Files;
import java.nio.file.Path;
import java.util.ArrayList;
import java.util.List;
import java.util.TreeSet;
import java.util.regex.Matcher;
import java.util.regex.Pattern;
import java.util.stream.Stream;

/** README.md: its Java stands in UseTest, which runs it; it names every test, and a test for every promise. */
public final class ReadmeTest {
    public static void main(String[] args) throws IOException {
        String page = Files.readString(Path.of("README.md"));
        for (String shown : javaOf(page)) {
            standsInUse(shown);
        }
        namesTests(page);
        namesPromises(page);
        Due.end();
    }

    private static List<String> javaOf(String page) {
        List<String> all = new ArrayList<>();
        Matcher found = Pattern.compile("(?s)```java\n(.*?)```").matcher(page);
        while (found.find()) {
            all.add(found.group(1));
        }
        Due.yes("three pieces of Java", all.size() == 3);
        return all;
    }

    /** In the same order; between its lines UseTest may ask for what is due. */
    private static void standsInUse(String shown) throws IOException {
        List<String> lines = Files.readAllLines(Path.of("src/test/java/UseTest.java"));
        int at = 0;
        for (String line : shown.split("\n")) {
            String code = line.replaceAll(" +//.*", "").trim();
            while (at < lines.size() && !lines.get(at).trim().equals(code)) {
                at++;
            }
            Due.yes("UseTest has, in this order: " + code, at < lines.size());
            at++;
        }
    }

    private static void namesTests(String page) throws IOException {
        try (Stream<Path> files = Files.list(Path.of("src/test/java"))) {
            files.map(file -> file.getFileName().toString().replace(".java", ""))
                    .forEach(name -> Due.yes("README names " + name, Pattern.compile("\\b" + name + "\\b").matcher(page).find()));
        }
    }

    /** By the tables of single promises, not by the rows that name them all. */
    private static void namesPromises(String page) {
        TreeSet<Integer> named = new TreeSet<>();
        for (String line : page.split("\n")) {
            Matcher row = Pattern.compile("\\| \\w+Test\\b.*\\| ([0-9, to]+)( \\||:.*)").matcher(line);
            if (row.matches() && !row.group(1).equals("1 to 55")) {
                for (String range : row.group(1).trim().split(", ")) {
                    String[] ends = range.split(" to ");
                    for (int i = Integer.parseInt(ends[0]); i <= Integer.parseInt(ends[ends.length - 1]); i++) {
                        named.add(i);
                    }
                }
            }
        }
        for (int promise = 1; promise <= 55; promise++) {
            Due.yes("README names a test of promise " + promise, named.contains(promise));
        }
    }
}
