import java.io.IOException;
import java.nio.file.Files;
import java.nio.file.Path;
import java.util.HashSet;
import java.util.List;
import java.util.Set;
import java.util.regex.Matcher;
import java.util.regex.Pattern;

/** What of ../shared/LANGUAGE.md can be seen in the text of the class; the rest is for the reader. */
public final class LanguageTest {
  private static final Path SOURCE = Path.of("src/main/java/Polyforge.java");
  private static final List<String> NEVER = List.of("->", "::", "\\bcatch\\b", "\\btry\\b", "\\bfinally\\b",
      "\\bsynchronized\\b", "\\bassert\\b", "\\bprotected\\b", "\\bwhile\\b", "\\bObject\\b", "Exact\\b", "\\bequals\\b",
      "\\bhashCode\\b", "\\btoString\\b", "\"\\s*\\+", "\\+\\s*\"", "[^\\x00-\\x7f]");
  private static final Set<String> LIBRARY = Set.of("Arrays.copyOf", "Arrays.copyOfRange", "Arrays.fill",
      "System.arraycopy", "Math.max", "Math.min", "Math.abs", "Math.floorMod", "Math.floorDiv", "Integer.compare");
  private static int wrong = 0;

  private static void fault(String what) {
    wrong++;
    System.out.println("LanguageTest: " + what);
  }

  public static void main(String[] args) throws IOException {
    String source = Files.readString(SOURCE);
    String code = source.replaceAll("(?s)/\\*.*?\\*/", "").replaceAll("//[^\n]*", "");
    for (String never : NEVER) {
      Matcher m = Pattern.compile(never).matcher(code);
      if (m.find()) {
        fault("there is " + m.group());
      }
    }
    Matcher used = Pattern.compile("\\b(?:Arrays|System|Math|Integer|Long|String|Character)\\.\\w+").matcher(code);
    while (used.find()) {
      if (!LIBRARY.contains(used.group())) {
        fault(used.group() + " is not listed in rule 4");
      }
    }
    Matcher fields = Pattern.compile("(?m)^ +(?:private |public )?static (?!final )[^(]*[;=]").matcher(code);
    while (fields.find()) {
      fault("a static field that is not final: " + fields.group().trim());
    }
    checkMembers(code);
    checkMethods(code);
    System.out.println("LanguageTest: " + wrong + " faults");
    if (wrong > 0) {
      System.exit(1);
    }
  }

  private static void checkMembers(String code) {
    Set<String> face = new HashSet<>();
    Matcher open = Pattern.compile("(?m)^  public [\\w\\[\\]]+ (\\w+)\\(").matcher(code);
    while (open.find()) {
      face.add(open.group(1));
    }
    if (face.size() != 53) {
      fault("the face has " + face.size() + " methods, not 53");
    }
    Matcher own = Pattern.compile("(?m)^ +(?:private |static |final )*(?!return|new|else|throw|public)[\\w\\[\\]]+ (\\w+)\\(.*\\{$")
        .matcher(code);
    while (own.find()) {
      if (face.contains(own.group(1))) {
        fault("a method of its own has the name of a public one: " + own.group(1));
      }
    }
    Matcher members = Pattern.compile("(?m)^  (?!public |private |}| )\\S.*").matcher(code);
    while (members.find()) {
      fault("a member that is neither public nor private: " + members.group().trim());
    }
    int classes = code.split("\\bclass \\w+ \\{", -1).length - 1;
    if (classes > 12) {
      fault("there are " + classes + " classes");
    }
  }

  private static void checkMethods(String code) {
    String[] lines = code.split("\n");
    int start = -1;
    String indent = "";
    for (int i = 0; i < lines.length; i++) {
      Matcher head = Pattern.compile("^( {2}| {4})(?! )(?!.*\\bclass\\b)[^=;]*\\(.*").matcher(lines[i]);
      if (head.matches()) {
        start = i;
        indent = head.group(1);
        int parameters = lines[i].replaceAll("\\).*", "").split(",").length;
        if (parameters > 7) {
          fault("more than seven parameters: " + lines[i].trim());
        }
      }
      if (start >= 0 && lines[i].equals(indent + "}")) {
        if (i - start > 60) {
          fault("more than sixty lines: " + lines[start].trim());
        }
        start = -1;
      }
    }
  }
}
