import java.io.IOException;
import java.nio.file.Files;
import java.nio.file.Path;
import java.util.ArrayList;
import java.util.List;

/** The rows of a test: each is an answer and what is due, under the sentence of the document that it shows. */
final class Rows {
    private final List<String> said = new ArrayList<>();
    private int line;
    private int number;
    private int wrong;

    /** The rows from here on show this sentence. */
    void says(String sentence) {
        said.add(oneLine(sentence));
        line = 0;
    }

    void due(long want, long got) {
        line++;
        number++;
        if (want == got) return;
        wrong++;
        String last = said.isEmpty() ? "" : said.get(said.size() - 1);
        System.out.println("\"" + last + "\", row " + line + where() + ": answered " + got + ", due is " + want);
    }

    void same(String want, String got) {
        line++;
        number++;
        if (want.equals(got)) return;
        wrong++;
        System.out.println("\"" + said.get(said.size() - 1) + "\", row " + line + where() + ":\n  " + got + "\n  due is\n  " + want);
    }

    private static String where() {
        for (StackTraceElement e : new Throwable().getStackTrace()) {
            if (!e.getClassName().equals("Rows")) return " (" + e.getFileName() + " " + e.getLineNumber() + ")";
        }
        return "";
    }

    int wrong() { return wrong; }

    int number() { return number; }

    private static String oneLine(String text) { return text.replaceAll("\\s+", " ").trim(); }

    /** What the document says, from its terms to the last promise, that no row shows. */
    List<String> unsaid(Path document) throws IOException {
        String text = Files.readString(document);
        text = text.substring(text.indexOf("## Terms") + 8, text.indexOf("## Not promised"));
        text = text.replaceAll("(?m)^##.*$", "").replaceAll("(?m)^`[^`]*`:", "").replace("====", "");
        text = oneLine(text);
        boolean[] shown = new boolean[text.length()];
        List<String> left = new ArrayList<>();
        for (String s : said) {
            int at = text.indexOf(s);
            if (at < 0) left.add("(not in the document) " + s);
            for (; at >= 0; at = text.indexOf(s, at + 1)) for (int k = 0; k < s.length(); k++) shown[at + k] = true;
        }
        StringBuilder gap = new StringBuilder();
        for (int k = 0; k <= text.length(); k++) {
            if (k < text.length() && !shown[k]) {
                gap.append(text.charAt(k));
            } else {
                if (gap.toString().matches(".*\\w.*")) left.add(gap.toString().trim());
                gap.setLength(0);
            }
        }
        return left;
    }
}
