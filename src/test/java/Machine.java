import java.lang.reflect.InvocationTargetException;
import java.lang.reflect.Method;
import java.util.ArrayList;
import java.util.HashMap;
import java.util.List;
import java.util.Map;

/** An object of the class, called by words: a call's name, then its arguments, or calls in brackets for them. */
final class Machine {
  /** The document promises nothing beyond so many calls. */
  static final int MOST_CALLS = 512;

  /** What a call answered, or else what it threw. */
  record Outcome(Object answer, Throwable thrown) {
    String text() {
      return thrown == null ? String.valueOf(answer) : thrown.getClass().getName();
    }
  }

  /** Told by a script that cannot be run. */
  static final class Fault extends RuntimeException {
    private static final long serialVersionUID = 1;

    Fault(String text) {
      super(text);
    }
  }

  private static final Map<String, Method> FACE = face();

  private final Polyforge object = new Polyforge();
  private final Map<String, Object> names = new HashMap<>();
  private int calls = 0;

  private static Map<String, Method> face() {
    Map<String, Method> face = new HashMap<>();
    for (Method method : Polyforge.class.getDeclaredMethods()) {
      if (java.lang.reflect.Modifier.isPublic(method.getModifiers())) {
        face.put(method.getName(), method);
      }
    }
    return face;
  }

  boolean hasCallsLeft() {
    return calls < MOST_CALLS;
  }

  void name(String name, Object value) {
    names.put(name, value);
  }

  Outcome call(String name, Object... arguments) {
    Method method = FACE.get(name);
    if (method == null) {
      throw new Fault("there is no call " + name);
    }
    if (!hasCallsLeft()) {
      throw new Fault("more than " + MOST_CALLS + " calls");
    }
    calls++;
    try {
      return new Outcome(method.invoke(object, arguments), null);
    } catch (InvocationTargetException e) {
      return new Outcome(null, e.getCause());
    } catch (IllegalAccessException | IllegalArgumentException e) {
      throw new Fault(name + " cannot be called so: " + e.getMessage());
    }
  }

  /** A call that must answer. */
  private Object ask(String name, Object... arguments) {
    Outcome outcome = call(name, arguments);
    if (outcome.thrown != null) {
      throw new Fault(name + " threw " + outcome.thrown);
    }
    return outcome.answer;
  }

  private int askInt(String name, Object... arguments) {
    return ((Number) ask(name, arguments)).intValue();
  }

  Outcome run(String text) {
    List<String> words = words(text);
    String name = words.get(0);
    switch (name) {
      case "poly":
        return new Outcome(make((Integer) value(words.get(1)), words.subList(2, words.size())), null);
      case "show":
        return new Outcome(polynomialText((Integer) value(words.get(1))), null);
      case "showBasis":
        return new Outcome(basisText((Integer) value(words.get(1))), null);
      case "fill":
        return new Outcome(fill((Integer) value(words.get(1))), null);
      case "repeat":
        return repeat((Integer) value(words.get(1)), String.join(" ", words.subList(2, words.size())));
      default:
        return call(name, arguments(words));
    }
  }

  /** Makes a call several times; what the last one answered. */
  private Outcome repeat(int times, String call) {
    Outcome outcome = run(call);
    for (int i = 1; i < times && outcome.thrown == null; i++) {
      outcome = run(call);
    }
    return outcome;
  }

  /** Runs what stands in brackets in a call, but not the call. */
  void runArguments(String text) {
    arguments(words(text));
  }

  private Object[] arguments(List<String> words) {
    Method method = FACE.get(words.get(0));
    if (method == null) {
      throw new Fault("there is no call " + words.get(0));
    }
    Object[] arguments = new Object[words.size() - 1];
    for (int i = 0; i < arguments.length; i++) {
      arguments[i] = value(words.get(i + 1));
    }
    return arguments;
  }

  /** What a word stands for: a number, a character, a name that was given, or a call in brackets. */
  Object value(String word) {
    if (word.startsWith("(")) {
      Outcome outcome = run(word.substring(1, word.length() - 1));
      if (outcome.thrown != null) {
        throw new Fault(word + " threw " + outcome.thrown);
      }
      return outcome.answer;
    }
    if (word.length() == 3 && word.startsWith("'") && word.endsWith("'")) {
      return word.charAt(1);
    }
    if (word.startsWith("#")) {
      return (char) Integer.parseInt(word.substring(1));
    }
    if (names.containsKey(word)) {
      return names.get(word);
    }
    switch (word) {
      case "MIN":
        return Integer.MIN_VALUE;
      case "MAX":
        return Integer.MAX_VALUE;
      default:
        return number(word);
    }
  }

  private static Integer number(String word) {
    try {
      return Integer.valueOf(word);
    } catch (NumberFormatException e) {
      throw new Fault("nothing is named " + word);
    }
  }

  /** Words between spaces; a bracket with all that is in it is one word. */
  static List<String> words(String text) {
    List<String> words = new ArrayList<>();
    StringBuilder word = new StringBuilder();
    int depth = 0;
    for (char c : text.toCharArray()) {
      depth += c == '(' ? 1 : c == ')' ? -1 : 0;
      if (c == ' ' && depth == 0) {
        if (word.length() > 0) {
          words.add(word.toString());
        }
        word.setLength(0);
      } else {
        word.append(c);
      }
    }
    if (word.length() > 0) {
      words.add(word.toString());
    }
    return words;
  }

  /** Makes a polynomial that is told as polynomialText tells it. */
  private int make(int ground, List<String> words) {
    int sum = askInt("constant", ground, 0);
    int term = -1;
    for (String word : words) {
      if (word.equals("+")) {
        sum = askInt("add", sum, term);
        term = -1;
      } else if (!word.equals("nothing")) {
        int factor = factor(ground, word);
        term = term < 0 ? factor : askInt("multiply", term, factor);
      }
    }
    return term < 0 ? sum : askInt("add", sum, term);
  }

  private int factor(int ground, String word) {
    int variable = "xyz".indexOf(word.charAt(0));
    if (variable < 0) {
      return askInt("constant", ground, number(word));
    }
    int base = askInt("variable", ground, variable);
    int exponent = word.length() == 1 ? 1 : number(word.substring(2));
    if (exponent <= 9) {
      return askInt("power", base, exponent);
    }
    int tens = askInt("power", askInt("power", base, exponent / 6), 6);
    return askInt("multiply", tens, askInt("power", base, exponent % 6));
  }

  /** Keeps constants until so many polynomials are kept. */
  private int fill(int count) {
    int kept = askInt("polynomials");
    for (int i = 0; kept < count; i++, kept++) {
      askInt("constant", 0, 100000 + i);
    }
    return kept;
  }

  private String polynomialText(int polynomial) {
    StringBuilder text = new StringBuilder();
    int terms = askInt("terms", polynomial);
    for (int i = 0; i < terms; i++) {
      text.append(i == 0 ? "" : " + ");
      text.append(termText(ask("coefficientAt", polynomial, i), askInt("exponentAt", polynomial, i, 0),
          askInt("exponentAt", polynomial, i, 1), askInt("exponentAt", polynomial, i, 2)));
    }
    return terms == 0 ? "nothing" : text.toString();
  }

  private String basisText(int ideal) {
    StringBuilder text = new StringBuilder();
    int count = askInt("basis", ideal);
    for (int i = 0; i < count; i++) {
      text.append(i == 0 ? "" : ", ");
      int terms = askInt("basisTerms", ideal, i);
      for (int t = 0; t < terms; t++) {
        text.append(t == 0 ? "" : " + ");
        text.append(termText(ask("basisCoefficient", ideal, i, t), askInt("basisExponent", ideal, i, t, 0),
            askInt("basisExponent", ideal, i, t, 1), askInt("basisExponent", ideal, i, t, 2)));
      }
    }
    return count == 0 ? "empty" : text.toString();
  }

  private static String termText(Object coefficient, int... exponents) {
    StringBuilder text = new StringBuilder();
    for (int v = 0; v < 3; v++) {
      if (exponents[v] > 0) {
        text.append(" ").append("xyz".charAt(v)).append(exponents[v] == 1 ? "" : "^" + exponents[v]);
      }
    }
    boolean isPlain = coefficient.toString().equals("1") && text.length() > 0;
    return isPlain ? text.substring(1) : coefficient.toString() + text;
  }
}
