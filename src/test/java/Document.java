import java.io.IOException;
import java.nio.file.Files;
import java.nio.file.Path;
import java.util.ArrayList;
import java.util.Collection;
import java.util.List;

/** The document itself, so that the tests quote its very words and leave none of a section out. */
final class Document {
    private static final Path PLACE = Path.of("..", "shared", "DOC.md");

    private Document() {
    }

    static boolean isAtHand() {
        return Files.isReadable(PLACE);
    }

    /** The public lines of the face that the document writes out, each without "public" and its last ";". */
    static List<String> face() {
        List<String> face = new ArrayList<>();
        if (!isAtHand()) {
            System.out.println("no document at " + PLACE + ": the face is not compared");
            return face;
        }
        for (String line : linesOf("The public face")) {
            String plain = line.trim();
            if (plain.startsWith("public ")) {
                face.add(plain.substring("public ".length()).replaceAll(";$", ""));
            }
        }
        return face;
    }

    /** What is amiss with the words that a test quotes from a section; nothing if the document is not at hand. */
    static List<String> faults(String section, Collection<Sentence> quoted) {
        List<String> faults = new ArrayList<>();
        if (!isAtHand()) {
            System.out.println("no document at " + PLACE + ": the quotes are not compared");
            return faults;
        }
        String text = textOf(section);
        boolean[] covered = new boolean[text.length()];
        for (Sentence sentence : quoted) {
            if (!cover(text, sentence.words, covered)) {
                faults.add("the section \"" + section + "\" does not say: " + sentence.words);
            }
        }
        String left = uncovered(text, covered);
        if (!left.isEmpty()) {
            faults.add("no test quotes, in the section \"" + section + "\": " + left);
        }
        return faults;
    }

    /** The section in one line, without the method's face before its words. */
    private static String textOf(String section) {
        String text = String.join(" ", linesOf(section));
        return text.replaceAll("`[^`]*`:?", "").replaceAll("\\s+", " ");
    }

    private static List<String> linesOf(String section) {
        List<String> found = new ArrayList<>();
        boolean inside = false;
        for (String line : lines()) {
            if (line.startsWith("## ")) {
                inside = line.equals("## " + section);
            } else if (inside) {
                found.add(line);
            }
        }
        return found;
    }

    private static List<String> lines() {
        try {
            return Files.readAllLines(PLACE);
        } catch (IOException unread) {
            throw new IllegalStateException("the document can not be read", unread);
        }
    }

    private static boolean cover(String text, String words, boolean[] covered) {
        int at = text.indexOf(words);
        boolean found = at >= 0;
        while (at >= 0) {
            for (int i = at; i < at + words.length(); i++) {
                covered[i] = true;
            }
            at = text.indexOf(words, at + 1);
        }
        return found;
    }

    /** The letters and digits, with what stands between them, that no quote covers. */
    private static String uncovered(String text, boolean[] covered) {
        StringBuilder left = new StringBuilder();
        for (int i = 0; i < text.length(); i++) {
            left.append(covered[i] ? ' ' : text.charAt(i));
        }
        String words = left.toString().replaceAll("\\s+", " ").trim();
        return words.chars().anyMatch(Character::isLetterOrDigit) ? words : "";
    }
}
