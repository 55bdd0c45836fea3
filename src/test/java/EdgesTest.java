import java.io.IOException;
import java.nio.charset.StandardCharsets;
import java.nio.file.Files;
import java.nio.file.Path;
import java.util.Arrays;
import java.util.List;

/** Every sentence of the document that names a boundary case, with a test of its own; and every sentence has one. */
public final class EdgesTest {
    private static final Path DOCUMENT = Path.of("../shared/DOC.md");
    private static final int PROMISES = 32;

    private EdgesTest() {
    }

    private static String plain(String text) {
        return text.replaceAll("```(java|text)?", " ").replaceAll("\\s+", " ");
    }

    /** What stands under a heading, up to the next one. */
    private static String section(String document, String heading) {
        int from = document.indexOf("\n## " + heading);
        if (from < 0) {
            return "";
        }
        int start = document.indexOf('\n', from + 1);
        int end = document.indexOf("\n## ", start);
        return plain(document.substring(start, end < 0 ? document.length() : end));
    }

    private static String home(String document, Edge edge) {
        if (edge.promise == 0) {
            return section(document, "What it is");
        }
        return section(document, edge.ofTerms ? "Terms" : "Promise " + edge.promise + ":");
    }

    private static void quotes(String document, List<Edge> edges) {
        for (Edge edge : edges) {
            String name = "promise " + edge.promise + ", '" + edge.sentence + "': ";
            Check.due(name + "stands in the document", home(document, edge).contains(edge.sentence), true);
            Check.due(name + "a promise", edge.promise >= 0 && edge.promise <= PROMISES, true);
        }
    }

    /** What of a text no test quotes; single signs and words that only join two quotes don't count. */
    private static String unquoted(String text, List<Edge> edges) {
        boolean[] quoted = new boolean[text.length()];
        for (Edge edge : edges) {
            for (int at = text.indexOf(edge.sentence); at >= 0; at = text.indexOf(edge.sentence, at + 1)) {
                Arrays.fill(quoted, at, at + edge.sentence.length(), true);
            }
        }
        StringBuilder rest = new StringBuilder();
        for (int i = 0; i < quoted.length; i++) {
            rest.append(quoted[i] ? '\n' : text.charAt(i));
        }
        StringBuilder left = new StringBuilder();
        for (String piece : rest.toString().split("\n+")) {
            String bare = piece.trim();
            boolean joins = bare.matches("(==== \\d\\.)?[,:;.|]?( ?and)?") || bare.matches("Of a SUIT:|Of two SUITS:");
            left.append(joins ? "" : "[" + bare + "]");
        }
        return left.toString();
    }

    private static void sentences(String where, String text, List<Edge> edges) {
        String left = unquoted(text, edges);
        Check.due(where + ": no test quotes " + left, left.isEmpty(), true);
    }

    private static void everySentence(String document, List<Edge> edges) {
        sentences("Terms", section(document, "Terms"), edges.stream().filter(e -> e.ofTerms).toList());
        for (int promise = 1; promise <= PROMISES; promise++) {
            int wanted = promise;
            String text = section(document, "Promise " + promise + ":");
            Check.due("promise " + promise + " stands in the document", text.indexOf("`: ") > 0, true);
            String behindTheCall = text.substring(text.indexOf("`: ") + 3);
            sentences("Promise " + promise, behindTheCall, edges.stream().filter(e -> e.promise == wanted && !e.ofTerms).toList());
        }
    }

    public static void main(String[] args) throws IOException {
        TextEdges.all();
        LawEdges.all();
        QuestionEdges.all();
        CallEdges.all();
        ActEdges.all();
        String document = Files.readString(DOCUMENT, StandardCharsets.UTF_8);
        quotes(document, Edge.all());
        everySentence(document, Edge.all());
        System.out.println(Edge.all().size() + " sentences");
        Check.finish("EdgesTest");
    }
}
