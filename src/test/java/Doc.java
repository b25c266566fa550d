import java.io.IOException;
import java.nio.file.Files;
import java.nio.file.Path;
import java.util.Map;
import java.util.TreeMap;

/** The document in places: each promise, rule and term, with its words. */
final class Doc {
    private static final Map<String, String> PLACES = read();

    private Doc() {
    }

    /** Whether these words stand at this place of the document; where it can't be read, nothing is compared. */
    static boolean says(String place, String words) {
        return PLACES.isEmpty() || PLACES.getOrDefault(place, "").contains(words);
    }

    static Iterable<String> places() {
        return PLACES.keySet();
    }

    private static Map<String, String> read() {
        Map<String, String> places = new TreeMap<>();
        String text;
        try {
            text = Files.readString(Path.of(System.getProperty("doc", "../shared/DOC.md")));
        } catch (IOException e) {
            return places;
        }
        places.put("What it is", between(text, "## What it is", "## The public face"));
        for (int term = 1; term <= 3; term++) {
            String next = term < 3 ? "======== " + (term + 1) + " " : "Exceptions: ";
            places.put("Term " + term, between(text, "======== " + term + " ", next));
        }
        for (int rule = 1; rule <= 11; rule++) {
            places.put("Rule " + rule, between(text, "\n  " + rule + " ", "\n"));
        }
        places.put("Exceptions", between(text, "Exceptions: ", "## Promise 1:"));
        for (int promise = 1; promise <= 29; promise++) {
            places.put("Promise " + promise, between(text, "## Promise " + promise + ":", "\n## "));
        }
        return places;
    }

    private static String between(String text, String from, String to) {
        int start = text.indexOf(from);
        if (start < 0) {
            return "";
        }
        int end = text.indexOf(to, start + from.length());
        return text.substring(start + from.length(), end < 0 ? text.length() : end).replaceAll("\\s+", " ");
    }
}
