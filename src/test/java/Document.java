import java.io.IOException;
import java.io.UncheckedIOException;
import java.nio.file.Files;
import java.nio.file.Path;
import java.util.ArrayList;
import java.util.List;
import java.util.Set;
import java.util.regex.Pattern;

/** The document's clauses, from its headings to their ends, and which of them a test has quoted. */
final class Document {
    private static final String FIRST = "## What it is";
    private static final String BEHIND = "## Not promised";
    private static final Path FILE = Path.of("../shared/DOC.md");
    private static final List<Clause> CLAUSES = read();

    private static final class Clause {
        final String section;
        final String words;
        boolean quoted = false;

        Clause(String section, String words) {
            this.section = section;
            this.words = words;
        }
    }

    private Document() {
    }

    /** Marks the clause that has these words; false if the section does not have them, or has them twice. */
    static boolean quote(String section, String words) {
        int found = 0;
        for (Clause clause : CLAUSES) {
            if (clause.section.equals(section) && clause.words.contains(words)) {
                clause.quoted = true;
                found += clause.words.split(Pattern.quote(words), -1).length - 1;
            }
        }
        return found == 1;
    }

    /** The clauses that no test has quoted, but for these. */
    static List<String> unquoted(Set<String> others) {
        List<String> left = new ArrayList<>();
        for (Clause clause : CLAUSES) {
            if (!clause.quoted && !others.contains(clause.words)) {
                left.add(clause.section + ": " + clause.words);
            }
        }
        return left;
    }

    private static List<Clause> read() {
        List<Clause> clauses = new ArrayList<>();
        String section = "";
        boolean inCode = false;
        for (String line : wanted().split("\n")) {
            inCode ^= line.startsWith("```");
            if (line.startsWith("#")) {
                section = nameOf(line);
            } else if (!inCode && !line.startsWith("`") && !line.startsWith("----")) {
                for (String words : split(line.strip())) {
                    clauses.add(new Clause(section, words));
                }
            }
        }
        return clauses;
    }

    private static String wanted() {
        try {
            String text = Files.readString(FILE);
            return text.substring(text.indexOf(FIRST), text.indexOf(BEHIND));
        } catch (IOException e) {
            throw new UncheckedIOException(e);
        }
    }

    /** A promise's section bears its number alone. */
    private static String nameOf(String heading) {
        return heading.replaceFirst("^#+ ", "").replaceFirst("^Promise ([0-9]+):.*", "$1");
    }

    /**
     * A clause ends with a full stop or a semicolon ahead of a blank, outside of parentheses and quotes;
     * an item of a list is one clause.
     */
    private static List<String> split(String line) {
        if (line.startsWith("- ")) {
            return List.of(line);
        }
        List<String> parts = new ArrayList<>();
        StringBuilder part = new StringBuilder();
        int depth = 0;
        boolean inQuotes = false;
        for (int i = 0; i < line.length(); i++) {
            char c = line.charAt(i);
            part.append(c);
            inQuotes ^= c == '"';
            depth += c == '(' ? 1 : c == ')' ? -1 : 0;
            boolean ends = (c == '.' || c == ';') && line.startsWith(" ", i + 1) && depth == 0 && !inQuotes;
            if (ends || i == line.length() - 1) {
                parts.add(part.toString().strip());
                part.setLength(0);
            }
        }
        return parts;
    }
}
