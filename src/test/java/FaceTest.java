import java.io.IOException;
import java.lang.reflect.Constructor;
import java.lang.reflect.Field;
import java.lang.reflect.Method;
import java.lang.reflect.Modifier;
import java.nio.file.Files;
import java.nio.file.Path;
import java.util.ArrayList;
import java.util.Arrays;
import java.util.List;
import java.util.Set;
import java.util.TreeSet;
import java.util.regex.Matcher;
import java.util.regex.Pattern;

/** Compares what the class shows with the face that the document writes out, its exceptions too. */
public final class FaceTest {
  private static int wrong = 0;

  public static void main(String[] args) throws IOException {
    Set<String> due = told(Path.of(System.getProperty("shared", "../shared"), "DOC.md"));
    Set<String> got = shown();
    for (String member : due) {
      if (!got.contains(member)) {
        fault("is missing: " + member);
      }
    }
    for (String member : got) {
      if (!due.contains(member)) {
        fault("is not in the document: " + member);
      }
    }
    if (!Modifier.isFinal(Polyforge.class.getModifiers()) || !Modifier.isPublic(Polyforge.class.getModifiers())) {
      fault("the class is not public and final");
    }
    System.out.println("FaceTest: " + due.size() + " members, " + wrong + " wrong");
    if (wrong > 0 || due.isEmpty()) {
      System.exit(1);
    }
  }

  private static void fault(String what) {
    wrong++;
    System.out.println("FaceTest: " + what);
  }

  /** The members that stand in the document's class, without the names of their parameters. */
  private static Set<String> told(Path file) throws IOException {
    String text = Files.readString(file);
    int start = text.indexOf("public final class Polyforge");
    String face = text.substring(start, text.indexOf("```", start));
    Set<String> members = new TreeSet<>();
    Matcher m = Pattern.compile("(?m)^    public (.*?)\\((.*?)\\)(?: throws (.*))?;$").matcher(face);
    while (m.find()) {
      List<String> parameters = new ArrayList<>();
      for (String parameter : m.group(2).split(", ")) {
        parameters.add(parameter.split(" ")[0]);
      }
      String thrown = m.group(3) == null ? "" : m.group(3);
      members.add(m.group(1) + "(" + String.join(", ", parameters) + ") " + thrown);
    }
    return members;
  }

  /** The members of the class that are not private, told in the same way. */
  private static Set<String> shown() {
    Set<String> members = new TreeSet<>();
    for (Constructor<?> made : Polyforge.class.getDeclaredConstructors()) {
      members.add("Polyforge(" + names(made.getParameterTypes()) + ") " + names(made.getExceptionTypes()));
    }
    for (Method method : Polyforge.class.getDeclaredMethods()) {
      if (!Modifier.isPrivate(method.getModifiers()) && !method.isSynthetic()) {
        String start = Modifier.isPublic(method.getModifiers()) && !Modifier.isStatic(method.getModifiers())
            ? "" : Modifier.toString(method.getModifiers()) + " ";
        members.add(start + method.getReturnType().getSimpleName() + " " + method.getName() + "("
            + names(method.getParameterTypes()) + ") " + names(method.getExceptionTypes()));
      }
    }
    for (Field field : Polyforge.class.getDeclaredFields()) {
      if (!Modifier.isPrivate(field.getModifiers()) && !field.isSynthetic()) {
        members.add("field " + field.getName());
      }
    }
    return members;
  }

  private static String names(Class<?>[] types) {
    return String.join(", ", Arrays.stream(types).map(Class::getSimpleName).toArray(String[]::new));
  }
}
