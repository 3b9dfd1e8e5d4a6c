import java.nio.charset.StandardCharsets;
import java.nio.file.Files;
import java.nio.file.Path;
import java.util.ArrayList;
import java.util.Arrays;
import java.util.List;

/**
 * A test of its own for each sentence of the document that names an edge. Each test quotes its sentence: all that is
 * quoted must stand in ../shared/DOC.md, and all that stands there in the terms and promises must be quoted.
 */
public final class EdgesTest {
    private static final Path DOCUMENT = Path.of("../shared/DOC.md");
    private static final Check CHECK = new Check("EdgesTest");

    public static void main(String[] args) throws Exception {
        Edges[] groups = {new TermEdges(CHECK), new NetEdges(CHECK), new FormEdges(CHECK), new LimitEdges(CHECK),
            new ShareEdges(CHECK), new RowEdges(CHECK), new HostEdges(CHECK)};
        List<String> quotes = new ArrayList<>();
        for (Edges group : groups) {
            group.run();
            quotes.addAll(group.quotes);
        }
        if (Files.exists(DOCUMENT)) {
            compareWithDocument(plain(Files.readString(DOCUMENT, StandardCharsets.UTF_8)), quotes);
        } else {
            System.out.println("EdgesTest: there is no " + DOCUMENT + ", so the quotes were not looked up");
        }
        System.out.println("EdgesTest: " + quotes.size() + " tests");
        CHECK.end();
    }

    /** One blank between words; headings and the names of calls are no sentences. */
    private static String plain(String document) {
        String terms = document.substring(document.indexOf("An object is used"), document.indexOf("## Not promised"));
        int face = terms.indexOf("## The public face");
        String text = terms.substring(0, face) + terms.substring(terms.indexOf("## Terms"));
        return text.replaceAll("(?m)^Ahead of the calls .*$", " ").replaceAll("(?m)^#+ .*$", " ").replaceAll("(?m)^```.*$", " ")
            .replaceAll("`[^`]*`:", " ").replaceAll("======== [1-4] ", " ").replaceAll("\\s+", " ").trim();
    }

    private static void compareWithDocument(String document, List<String> quotes) {
        boolean[] quoted = new boolean[document.length()];
        for (String quote : quotes) {
            int at = document.indexOf(quote);
            CHECK.isTrue("the document says: " + quote, at >= 0);
            for (; at >= 0; at = document.indexOf(quote, at + 1)) {
                Arrays.fill(quoted, at, at + quote.length(), true);
            }
        }
        StringBuilder left = new StringBuilder();
        for (int i = 0; i < quoted.length; i++) {
            left.append(quoted[i] ? '\n' : document.charAt(i));
        }
        for (String sentence : left.toString().split("\n+")) {
            CHECK.isTrue("no test quotes: " + sentence, sentence.isBlank());
        }
    }
}
