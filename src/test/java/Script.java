import java.io.IOException;
import java.nio.file.Files;
import java.nio.file.Path;
import java.util.ArrayList;
import java.util.List;
import java.util.stream.Collectors;
import java.util.stream.Stream;

/**
 * A file of runs: below a heading of the document its sentences, each behind '>', and below each sentence the calls
 * that test it. Rows behind 'scene' are run on each new object before those of a sentence.
 */
final class Script {
  /** A call, the name that its answer is given, and what it must answer or throw; each but the call may be null. */
  record Row(String place, String name, String call, String due, String thrown) {
  }

  record Run(String heading, String sentence, List<Row> scene, List<Row> rows) {
  }

  private final String file;
  private final List<Run> runs = new ArrayList<>();
  private String heading = "";
  private List<Row> scene = new ArrayList<>();
  private List<Row> rows = new ArrayList<>();
  private boolean isQuoting = false;

  private Script(String file) {
    this.file = file;
  }

  static List<Run> readAll(Path folder) throws IOException {
    List<Path> files;
    try (Stream<Path> found = Files.list(folder)) {
      files = found.filter(f -> f.toString().endsWith(".txt")).sorted().collect(Collectors.toList());
    }
    List<Run> all = new ArrayList<>();
    for (Path file : files) {
      all.addAll(new Script(file.getFileName().toString()).read(Files.readAllLines(file)));
    }
    return all;
  }

  private List<Run> read(List<String> lines) {
    for (int i = 0; i < lines.size(); i++) {
      String line = lines.get(i).strip();
      if (line.startsWith("## ")) {
        heading = line.substring(3);
        scene = new ArrayList<>();
      } else if (line.equals("scene")) {
        scene = new ArrayList<>();
        rows = scene;
      } else if (line.startsWith("> ")) {
        quote(line.substring(2));
      } else if (!line.isEmpty() && !line.startsWith("//")) {
        addRows(line, file + ":" + (i + 1));
      }
      isQuoting = line.startsWith("> ");
    }
    return runs;
  }

  private void quote(String text) {
    if (isQuoting) {
      Run begun = runs.remove(runs.size() - 1);
      runs.add(new Run(heading, begun.sentence + " " + text, scene, rows));
    } else {
      rows = new ArrayList<>();
      runs.add(new Run(heading, text, scene, rows));
    }
  }

  /** A row with {a, b} in it stands for one with a and one with b. */
  private void addRows(String line, String place) {
    int open = line.indexOf('{');
    int close = line.indexOf('}');
    if (open < 0 || close < open) {
      rows.add(row(line, place));
      return;
    }
    for (String choice : line.substring(open + 1, close).split(",")) {
      addRows(line.substring(0, open) + choice.strip() + line.substring(close + 1), place);
    }
  }

  private static Row row(String line, String place) {
    String left = line;
    String due = null;
    String thrown = null;
    int answers = line.indexOf(" -> ");
    int throwing = line.indexOf(" ! ");
    if (answers >= 0) {
      left = line.substring(0, answers);
      due = line.substring(answers + 4).strip();
    } else if (throwing >= 0) {
      left = line.substring(0, throwing);
      thrown = line.substring(throwing + 3).strip();
    }
    int named = left.indexOf(" = ");
    String name = named < 0 ? null : left.substring(0, named).strip();
    return new Row(place, name, named < 0 ? left.strip() : left.substring(named + 3).strip(), due, thrown);
  }
}
