import java.io.IOException;
import java.nio.file.Path;
import java.util.List;

/** Runs the scripts under src/test/together, in which calls of different promises stand in one run. */
public final class TogetherTest {
  public static void main(String[] args) throws IOException {
    List<Script.Run> runs = Script.readAll(Path.of("src/test/together"));
    for (Script.Run run : runs) {
      Trial.perform(run);
    }
    if (runs.isEmpty()) {
      Trial.tell("TogetherTest: there are no runs");
    }
    Trial.end("TogetherTest: " + runs.size() + " runs");
  }
}
