import java.io.IOException;
import java.nio.file.Files;
import java.nio.file.Path;
import java.util.ArrayList;
import java.util.List;
import java.util.Map;
import java.util.TreeMap;
import java.util.regex.Matcher;
import java.util.regex.Pattern;

/**
 * The words of ../shared/DOC.md by section, and which of them a test has taken up. Each word of
 * the terms and of the promises must be taken up, so that no sentence is left without a test.
 */
final class Document {
    private static final Pattern HEAD =
        Pattern.compile("(?m)^(?:## (Terms|Promise \\d+).*|## .*|([1-5])\\. [A-Z].*|(?=The constants: ))");

    private final Map<String, String> words = new TreeMap<>();
    private final Map<String, boolean[]> taken = new TreeMap<>();
    private final List<String> faults = new ArrayList<>();

    Document() throws IOException {
        String text = Files.readString(Path.of("../shared/DOC.md"));
        Matcher m = HEAD.matcher(text);
        String name = null;
        int from = 0;
        while (m.find()) {
            addSection(name, text.substring(from, m.start()));
            name = m.group(1) != null ? m.group(1) : m.group(2) != null ? "section " + m.group(2)
                : text.startsWith("The constants: ", m.start()) ? "constants" : null;
            from = m.end();
        }
        addSection(name, text.substring(from));
    }

    private void addSection(String name, String text) {
        if (name == null) {
            return;
        }
        String section = text.replaceAll("\\s+", " ").trim();
        if (name.startsWith("Promise")) {
            section = section.replaceFirst("^`[^`]*`: ", "");
        }
        if (name.equals("constants")) {
            section = section.replaceFirst("Ahead of the calls .*", "").trim();
        }
        words.put(name, section);
        taken.put(name, new boolean[section.length()]);
    }

    /** A test takes up some words of a section; a fault is kept if they do not stand there. */
    void take(String section, String quote) {
        String in = words.getOrDefault(section, "");
        int at = in.indexOf(quote);
        while (at >= 0 && taken.get(section)[at]) {
            at = in.indexOf(quote, at + 1);
        }
        if (at < 0) {
            faults.add(section + " does not say (once more): " + quote);
            return;
        }
        java.util.Arrays.fill(taken.get(section), at, at + quote.length(), true);
    }

    /** The faults of the quotes, and the words that no test has taken up. */
    List<String> faults() {
        List<String> all = new ArrayList<>(faults);
        if (words.size() != 42 + 5 + 2) {
            all.add("sections found: " + words.keySet());
        }
        for (String section : words.keySet()) {
            String left = leftOf(section);
            if (!left.isEmpty()) {
                all.add(section + " has words without a test: " + left);
            }
        }
        return all;
    }

    private String leftOf(String section) {
        StringBuilder left = new StringBuilder();
        boolean[] isTaken = taken.get(section);
        boolean isWord = false;
        for (int at = 0; at < isTaken.length; at++) {
            char sign = words.get(section).charAt(at);
            left.append(isTaken[at] ? '_' : sign);
            isWord |= !isTaken[at] && Character.isLetterOrDigit(sign);
        }
        return isWord ? left.toString().replaceAll("_+", " .. ").trim() : "";
    }
}
