import java.util.ArrayList;
import java.util.Arrays;
import java.util.HashMap;
import java.util.List;
import java.util.Map;

/** The sentences of the document: those of each promise, and those that the promises lean on (0). */
final class Document {
    private final Map<Integer, String> parts = new HashMap<>();
    private final Map<Integer, boolean[]> quoted = new HashMap<>();

    Document(String text) {
        int part = 0;
        for (String section : text.split("(?m)^## ")) {
            if (section.startsWith("The public face") || section.startsWith("Not promised")) {
                continue;
            }
            if (section.startsWith("Promise ")) {
                part = Integer.parseInt(section.substring(8, section.indexOf(':')));
            }
            parts.merge(part, sentences(section), (one, other) -> one + " " + other);
        }
        parts.forEach((number, sentences) -> quoted.put(number, new boolean[sentences.length()]));
    }

    /** Without headings, marks and the face of each call, which FaceTest has. */
    private static String sentences(String section) {
        String body = section.substring(section.indexOf('\n') + 1);
        return body.replaceAll("(?m)^Ahead of the calls.*$", " ").replaceAll("(?m)^```(text)?$", " ")
                .replaceAll("(?m)^`[^`]*`:", " ").replaceAll("======== \\d", " ").replaceAll("\\s+", " ").trim();
    }

    /** Whether a sentence stands in a promise or else in what all promises lean on; where it does is marked. */
    boolean quote(int promise, String sentence) {
        return mark(promise, sentence) || mark(0, sentence);
    }

    private boolean mark(int part, String sentence) {
        String all = parts.getOrDefault(part, "");
        boolean found = false;
        for (int at = all.indexOf(sentence); at >= 0; at = all.indexOf(sentence, at + 1)) {
            Arrays.fill(quoted.get(part), at, at + sentence.length(), true);
            found = true;
        }
        return found;
    }

    /** The runs of the document that no test quotes. */
    List<String> unquoted() {
        List<String> left = new ArrayList<>();
        parts.forEach((part, all) -> {
            StringBuilder run = new StringBuilder();
            for (int i = 0; i <= all.length(); i++) {
                if (i < all.length() && !quoted.get(part)[i]) {
                    run.append(all.charAt(i));
                } else {
                    if (run.toString().matches(".*[A-Za-z0-9].*")) {
                        left.add(part + ": " + run);
                    }
                    run.setLength(0);
                }
            }
        });
        return left;
    }
}
