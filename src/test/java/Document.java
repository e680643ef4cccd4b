import java.util.LinkedHashMap;
import java.util.Map;
import java.util.Set;
import java.util.regex.Pattern;

/** The words of the document under each heading, and which of them tests hold. */
final class Document {
    /** What tells a boundary: a number, an error, or a word for too little, too much, empty, full. */
    private static final Pattern BOUNDARY = Pattern.compile("[0-9]|[A-Z]{2,}_[A-Z]|NONE|GONE|at most|at least|less|great"
        + "|first|last|nearest|longer|until|out of|up to|too |empt|none|no such|without|overwrit|mod |if ");
    private static final Pattern SIGNATURE = Pattern.compile("`(int )?[A-Za-z]+\\([^)]*\\)`:");
    /** FaceTest holds the face, and the last one promises nothing. */
    private static final Set<String> LEFT_OUT = Set.of("", "The public face", "Not promised");
    private static final char HELD = '\u00b7';

    private final Map<String, String> texts = new LinkedHashMap<>();
    private final Map<String, StringBuilder> rests = new LinkedHashMap<>();

    Document(String text) {
        String heading = "";
        for (String line : text.split("\n")) {
            if (line.startsWith("#")) {
                heading = line.replaceFirst("#+ *", "").replaceFirst("^(Promise [0-9]+):.*", "$1");
            } else if (!line.isBlank()) {
                String words = line.strip().replaceAll("\\s+", " ").replaceFirst("^[0-9]\\. ", "");
                texts.merge(heading, words + " ", String::concat);
            }
        }
        texts.forEach((any, words) -> rests.put(any, new StringBuilder(words)));
    }

    /** Takes words as held, wherever they stand under the heading; false if they do not stand there. */
    boolean strike(String heading, String words) {
        String text = texts.getOrDefault(heading, "");
        int at = text.indexOf(words);
        boolean isThere = at >= 0;
        while (at >= 0) {
            for (int i = at; i < at + words.length(); i++) {
                rests.get(heading).setCharAt(i, HELD);
            }
            at = text.indexOf(words, at + 1);
        }
        return isThere;
    }

    /** The words that tell a boundary and are not held. */
    String unheld() {
        StringBuilder unheld = new StringBuilder();
        rests.forEach((heading, rest) -> {
            for (String words : rest.toString().split(HELD + "+")) {
                boolean isBoundary = BOUNDARY.matcher(SIGNATURE.matcher(words).replaceAll("")).find();
                if (isBoundary && !LEFT_OUT.contains(heading)) {
                    unheld.append(heading).append(": ").append(words.strip()).append('\n');
                }
            }
        });
        return unheld.toString();
    }
}
