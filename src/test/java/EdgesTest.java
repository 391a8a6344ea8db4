import java.io.IOException;
import java.nio.file.Files;
import java.nio.file.Path;
import java.util.ArrayList;
import java.util.HashMap;
import java.util.HashSet;
import java.util.List;
import java.util.Map;
import java.util.Set;
import java.util.stream.Collectors;
import java.util.stream.Stream;

/**
 * The tests of src/test/edges: one for each sentence of the document that names a boundary case, by the promise's
 * number, with the sentence's words. Each must pass, each promise must have one, and none may bear another's name.
 */
public final class EdgesTest {
    private static final int PROMISES = 54;

    private final Map<String, String> texts = new HashMap<>();
    private final Set<String> names = new HashSet<>();
    private final Set<Integer> promises = new HashSet<>();
    private final List<String> wrong = new ArrayList<>();
    private final String document;
    private int tests;

    private EdgesTest(String document) {
        this.document = document;
    }

    public static void main(String[] args) throws IOException {
        Path doc = Path.of("../shared/DOC.md");
        EdgesTest all = new EdgesTest(Files.exists(doc) ? plain(Files.readString(doc)) : null);
        try (Stream<Path> found = Files.list(Path.of("src/test/edges"))) {
            for (Path file : found.sorted().collect(Collectors.toList())) {
                all.file(Files.readAllLines(file));
            }
        }
        all.end();
    }

    private void end() {
        for (int promise = 1; promise <= PROMISES; promise++) {
            if (!promises.contains(promise)) {
                wrong.add("promise " + promise + " has no test");
            }
        }
        wrong.forEach(System.out::println);
        System.out.println("EdgesTest: " + tests + " tests, " + wrong.size() + " answers wrong");
        if (!wrong.isEmpty()) {
            System.exit(1);
        }
    }

    private static String plain(String text) {
        return text.replaceAll("\\s+", " ");
    }

    /** "== 20 name" begins a test, "> words" behind it are the document's, "# " a remark, "let NAME = " a text. */
    private void file(List<String> lines) {
        String name = null;
        List<String> body = new ArrayList<>();
        for (String raw : lines) {
            String line = raw.trim();
            if (line.startsWith("== ")) {
                finish(name, body);
                name = line.substring(3);
                body = new ArrayList<>();
            } else if (line.startsWith("> ")) {
                quote(name, line.substring(2));
            } else if (line.startsWith("let ")) {
                int is = line.indexOf(" = ");
                texts.put(line.substring(4, is), Script.unescaped(line.substring(is + 3)));
            } else if (!line.isEmpty() && !line.startsWith("# ")) {
                body.add(line);
            }
        }
        finish(name, body);
    }

    private void quote(String name, String words) {
        if (document != null && !document.contains(plain(words))) {
            // no failure: the class may be right still when the document is told in other words
            System.out.println(name + ": the document has no such words: " + words);
        }
    }

    private void finish(String name, List<String> body) {
        if (name == null) {
            return;
        }
        tests++;
        if (!name.matches("[0-9]{2} .+") || !names.add(name)) {
            wrong.add(name + ": no name, or another test's");
            return;
        }
        if (body.isEmpty()) {
            wrong.add(name + ": a test of nothing");
        }
        promises.add(Integer.parseInt(name.substring(0, 2)));
        wrong.addAll(Script.run(name, body, texts));
    }
}
