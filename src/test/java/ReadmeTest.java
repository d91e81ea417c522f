import java.io.IOException;
import java.nio.file.Files;
import java.nio.file.Path;
import java.util.ArrayList;
import java.util.List;

/** README.md's examples: they stand here as they stand there, and answer what they say. */
public final class ReadmeTest {
    private static final String SOURCE = "src/test/java/ReadmeTest.java";

    public static void main(String[] args) throws IOException {
        examples();
        sameAsInReadme();
        Check.end();
    }

    private static void examples() {
        TripleStore store = new TripleStore();
        int added = store.add(0x616e6eL, 0x616765L, -8);     // 1: ann age 7, a transaction of its own
        int before = store.begin();                          // 1 transaction was committed so far
        store.add(0x626f62L, 0x616765L, -31);                // bob age 30, seen at once
        int changes = store.commit();                        // 1 change
        int synced = store.sync();                           // 2 transactions are safe from a crash now
        int removed = store.remove(0x616e6eL, 0x616765L, -8); // 1: it was there
        int left = store.crash(0);                           // 2 triples: the removal was not synced

        Check.due("added", added, 1);
        Check.due("before", before, 1);
        Check.due("changes", changes, 1);
        Check.due("synced", synced, 2);
        Check.due("removed", removed, 1);
        Check.due("left", left, 2);
        Check.due("ann is passed as", 0x616e6eL, Check.term("ann"));
        Check.due("age is passed as", 0x616765L, Check.term("age"));
        asked(store);
    }

    private static void asked(TripleStore store) {
        String query = "select ?x ?a{?x age ?a.filter ?a > 7}order ?a desc limit 5";
        for (char c : query.toCharArray()) {
            store.append(c, 1);
        }
        int rows = store.ask();                              // 1
        long name = store.cell(0, 0);                        // 0x626f62, bob
        long age = store.cell(0, 1);                         // -31, the number 30

        Check.due("rows", rows, 1);
        Check.due("name", name, 0x626f62L);
        Check.due("name", Check.text(name), "bob");
        Check.due("age", age, -31);
        Check.due("age", Check.text(age), "30");
    }

    private static void sameAsInReadme() throws IOException {
        String here = unindented(Files.readAllLines(Path.of(SOURCE)));
        List<String> examples = javaBlocks(Files.readAllLines(Path.of("README.md")));
        Check.due("examples", examples.size(), 2);
        for (String example : examples) {
            Check.due("stands in " + SOURCE + ":\n" + example, here.contains(example), true);
        }
    }

    private static List<String> javaBlocks(List<String> lines) {
        List<String> blocks = new ArrayList<>();
        int start = -1;
        for (int i = 0; i < lines.size(); i++) {
            if (lines.get(i).equals("```java")) {
                start = i + 1;
            } else if (lines.get(i).equals("```") && start >= 0) {
                blocks.add(unindented(lines.subList(start, i)));
                start = -1;
            }
        }
        return blocks;
    }

    private static String unindented(List<String> lines) {
        StringBuilder text = new StringBuilder();
        for (String line : lines) {
            text.append(line.trim()).append('\n');
        }
        return text.toString();
    }
}
