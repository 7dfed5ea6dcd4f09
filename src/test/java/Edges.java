import java.io.IOException;
import java.nio.file.Files;
import java.nio.file.Path;
import java.util.Set;
import java.util.TreeSet;

/** The book of the boundary cases: each test in it holds one sentence of the document, named by its promise. */
final class Edges {
    static final int LEAST = Integer.MIN_VALUE;
    static final int MOST = Integer.MAX_VALUE;
    private static final Path DOCUMENT = Path.of("../shared/DOC.md");

    private final Check check = new Check();
    private final Set<Integer> named = new TreeSet<>();
    private final String document;
    private String sentence = "";

    Edges() throws IOException {
        document = Files.isReadable(DOCUMENT) ? Files.readString(DOCUMENT) : "";
    }

    /** From here on each answer belongs to these words of a promise, or of the terms that it uses. */
    void promise(int number, String words) {
        sentence = "Promise " + number + ", \"" + words + "\": ";
        named.add(number);
        boolean stands = document.isEmpty() || section("## Promise " + number + ":").contains(words) || section("## Terms").contains(words);
        check.due(sentence + "stands in the document", stands, true);
    }

    private String section(String head) {
        int from = document.indexOf(head);
        if (from < 0) {
            return "";
        }
        int to = document.indexOf("\n## ", from);
        return to < 0 ? document.substring(from) : document.substring(from, to);
    }

    void due(String call, long got, long want) {
        check.due(sentence + call, got, want);
    }

    void due(String call, boolean got, boolean want) {
        check.due(sentence + call, got, want);
    }

    void finish() {
        for (int number = 1; number <= 30; number++) {
            check.due("Promise " + number + " has a boundary case", named.contains(number), true);
        }
        check.finish();
    }

    /** Two columns that lean to neither side, one weather, and so many weeks gone by. */
    static WoodStack atWeek(int week) {
        WoodStack x = new WoodStack(2);
        x.weather(0, 0, 0, 0);
        x.lay(0, 0, 5, 400);
        x.lay(1, 0, 5, 400);
        for (int i = 0; i < week; i++) {
            x.week(0);
        }
        return x;
    }

    /** Two columns of which the left one has so many splits and the right one none: fallen in the first week. */
    static WoodStack fallen(int splits) {
        WoodStack x = new WoodStack(2);
        x.weather(0, 0, 0, 0);
        for (int i = 0; i < splits; i++) {
            x.lay(0, i % 4, 10, 600);
        }
        x.week(0);
        return x;
    }

    /** So many columns, all of them with eight splits. */
    static WoodStack full(int columns) {
        WoodStack x = new WoodStack(columns);
        for (int i = 0; i < 8 * columns; i++) {
            x.lay(i / 8, 0, 10, 500);
        }
        return x;
    }
}
