import java.io.IOException;
import java.nio.file.Files;
import java.nio.file.Path;
import java.util.LinkedHashMap;
import java.util.Map;

/**
 * The document's sentences, each with its test. A sentence that does not stand in the document is wrong,
 * and so is a number of the document that stands in no tested sentence: where a boundary is named, there
 * is a number.
 */
final class Sentences {
    final Kit kit = new Kit();
    private final Map<String, String> sections = new LinkedHashMap<>();
    private final Map<String, boolean[]> covered = new LinkedHashMap<>();

    Sentences() throws IOException {
        String all = Files.readString(Path.of("../shared/DOC.md"));
        add("T0", between(all, "## What it is", "## The public face").replace("==== 1.", ""));
        add("T1", between(all, "## Terms", "==== 2."));
        for (int part = 2; part <= 4; part++) {
            add("T" + part, between(all, "==== " + part + ".", "==== " + (part + 1) + "."));
        }
        add("T5", between(all, "==== 5.", "Ahead of the calls `tray`"));
        for (int promise = 1; promise <= 62; promise++) {
            String next = promise < 62 ? "## Promise " + (promise + 1) + ":" : "## Not promised";
            add("P" + promise, between(all, "## Promise " + promise + ":", next));
        }
    }

    private static String between(String all, String from, String to) {
        int at = all.indexOf(from);
        int end = all.indexOf(to, at + from.length());
        return at < 0 || end < 0 ? "" : all.substring(at + from.length(), end);
    }

    private void add(String where, String text) {
        String plain = text.replaceAll("\\s+", " ");
        kit.due(where + " stands in the document", plain.length() > 10, true);
        sections.put(where, plain);
        covered.put(where, new boolean[plain.length()]);
    }

    /** The test of one sentence, or of that part of it which names a boundary. */
    void says(String where, String quote, Runnable test) {
        int at = sections.get(where).indexOf(quote);
        kit.due(where + " says \"" + quote + "\"", at >= 0, true);
        for (int k = 0; at >= 0 && k < quote.length(); k++) {
            covered.get(where)[at + k] = true;
        }
        int askedAhead = kit.asked();
        int wrongAhead = kit.wrong();
        test.run();
        kit.due(where + " asks something for \"" + quote + "\"", kit.asked() > askedAhead, true);
        if (kit.wrong() > wrongAhead) {
            System.out.println("  broken, " + where + ": " + quote);
        }
    }

    void end(String name) {
        for (String where : sections.keySet()) {
            String text = sections.get(where);
            for (int k = 0; k < text.length(); k++) {
                boolean named = Character.isDigit(text.charAt(k)) && !covered.get(where)[k];
                if (named) {
                    kit.due(where + " has a number without a test: " + text.substring(Math.max(0, k - 40), Math.min(text.length(), k + 20)), true, false);
                }
            }
        }
        kit.end(name);
    }
}
