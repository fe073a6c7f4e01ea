import java.io.IOException;
import java.nio.file.Path;
import java.util.HashSet;
import java.util.List;
import java.util.Map;
import java.util.Set;

/**
 * Runs the scripts under src/test/boundaries, which test each sentence of the document at its boundaries, and looks
 * whether each sentence has a run of its own.
 */
public final class BoundaryTest {
  public static void main(String[] args) throws IOException {
    Document document = new Document(Path.of(System.getProperty("shared", "../shared"), "DOC.md"));
    List<Script.Run> runs = Script.readAll(Path.of("src/test/boundaries"));
    Set<String> tested = new HashSet<>();
    for (Script.Run run : runs) {
      tested.add(run.heading() + "\n" + run.sentence());
      Trial.perform(run);
    }
    int sentences = 0;
    for (Map.Entry<String, Set<String>> section : document.sentences().entrySet()) {
      for (String sentence : section.getValue()) {
        sentences++;
        if (!tested.remove(section.getKey() + "\n" + sentence)) {
          Trial.tell(section.getKey() + ": no run for: " + sentence);
        }
      }
    }
    for (String other : tested) {
      Trial.tell("no sentence of the document: " + other.replace("\n", ": "));
    }
    Trial.end("BoundaryTest: " + sentences + " sentences");
  }
}
