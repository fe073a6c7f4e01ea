import java.io.IOException;
import java.nio.file.Files;
import java.nio.file.Path;
import java.util.LinkedHashMap;
import java.util.LinkedHashSet;
import java.util.Map;
import java.util.Set;

/** The sentences of the document, by the headings that they stand under. */
final class Document {
  static final String FIRST_OF_SEVERAL = "If several exceptions apply, the one that is listed first is thrown.";

  private final Map<String, Set<String>> sentences = new LinkedHashMap<>();

  Document(Path file) throws IOException {
    String[] sections = Files.readString(file).split("(?m)^## ");
    for (String section : sections) {
      int end = section.indexOf('\n');
      String heading = section.substring(0, Math.max(end, 0)).strip();
      String text = section.substring(Math.max(end, 0));
      if (heading.equals("What it is") || heading.equals("Terms")) {
        sentences.put(heading, prose(text));
      } else if (heading.startsWith("Promise ")) {
        sentences.put(heading, promise(text));
      }
    }
  }

  Map<String, Set<String>> sentences() {
    return sentences;
  }

  private static String joined(String text) {
    return text.replaceAll("\\s+", " ").strip();
  }

  /** All sentences but titles, which are single words. */
  private static Set<String> prose(String text) {
    Set<String> found = new LinkedHashSet<>();
    for (String sentence : joined(text).split("(?<=\\.) (?=[A-Z])")) {
      if (sentence.contains(" ")) {
        found.add(sentence);
      }
    }
    return found;
  }

  /** What is told of the call, its parameters, what it returns and what it throws; the rule for several exceptions too. */
  private static Set<String> promise(String text) {
    Set<String> found = new LinkedHashSet<>();
    int refusals = 0;
    for (String part : text.strip().split("\n\\s*\n|\n(?=- )")) {
      String told = joined(part);
      if (told.startsWith("`")) {
        told = told.replaceFirst("^`[^`]*`: ", "");
      } else if (told.startsWith("- ")) {
        told = told.substring(2);
      }
      refusals += told.startsWith("Throws ") ? 1 : 0;
      found.add(told);
    }
    if (refusals > 1) {
      found.add(FIRST_OF_SEVERAL);
    }
    return found;
  }
}
