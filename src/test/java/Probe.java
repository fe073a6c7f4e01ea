/** Asks an object for whatever a call may have changed, as a text; what asking changes is as told, too. */
final class Probe {
  static final int KINDS = 5;
  private static final String ORDERS = "ldr";

  private final Machine machine;
  private final StringBuilder told = new StringBuilder();

  private Probe(Machine machine) {
    this.machine = machine;
  }

  static String of(Machine machine, int kind) {
    Probe probe = new Probe(machine);
    switch (kind) {
      case 0:
        probe.askPolynomials();
        break;
      case 1:
        probe.askRules();
        break;
      case 2:
        probe.askIdeals();
        break;
      case 3:
        probe.reckon();
        break;
      default:
        probe.askWhatIsKeptNext();
    }
    return probe.told.toString();
  }

  /** Asks as long as calls are left; the answer as a number, or -1. */
  private int ask(String name, Object... arguments) {
    if (!machine.hasCallsLeft()) {
      return -1;
    }
    Machine.Outcome outcome = machine.call(name, arguments);
    told.append(name);
    for (Object argument : arguments) {
      told.append(' ').append(argument);
    }
    told.append(": ").append(outcome.text()).append('\n');
    return outcome.answer() instanceof Integer ? (Integer) outcome.answer() : -1;
  }

  private boolean wasRefused() {
    return !machine.hasCallsLeft() || told.toString().endsWith("Exception\n");
  }

  private void askPolynomials() {
    ask("setOrder", 'l');
    int count = ask("polynomials");
    for (int p = count - 1; p >= 0; p--) {
      ask("ground", p);
      int terms = ask("terms", p);
      for (int i = 0; i < terms; i++) {
        ask("coefficientAt", p, i);
        for (int v = 0; v < 3; v++) {
          ask("exponentAt", p, i, v);
        }
      }
    }
  }

  private void askRules() {
    int count = ask("polynomials");
    int overPrime = -1;
    for (int p = 0; p < count; p++) {
      if (ask("ground", p) > 0) {
        overPrime = p;
        ask("steps", p);
        ask("rewrite", p);
      }
    }
    for (int v = 0; v < 3; v++) {
      ask("sign", v);
    }
    ask("openFrame");
    ask("closeFrame");
    for (int i = 0; i < 9 && !wasRefused(); i++) {
      ask("closeFrame");
    }
    ask("addRule", 1, 0, 0, overPrime, -1, ' ');
    for (int i = 0; i < 9 && !wasRefused(); i++) {
      ask("addRule", 1, 0, 0, overPrime, -1, ' ');
    }
  }

  private void askIdeals() {
    for (int i = 0; i < 5; i++) {
      int count = ask("polynomials");
      for (int p = 0; p < Math.min(count, 12); p++) {
        ask("isIn", i, p);
      }
    }
    for (char order : ORDERS.toCharArray()) {
      ask("setOrder", order);
      for (int i = 0; i < 5; i++) {
        int count = ask("basis", i);
        for (int b = 0; b < count; b++) {
          ask("basisTerms", i, b);
          ask("basisCoefficient", i, b, 1);
          ask("basisExponent", i, b, 0, 0);
          ask("basisExponent", i, b, 0, 2);
        }
      }
    }
    askForRoom();
  }

  /** How many generators and ideals there are shows by how many more are taken. */
  private void askForRoom() {
    int count = ask("polynomials");
    for (int i = 0; i < 5; i++) {
      for (int p = 0; p < Math.min(count, 8); p++) {
        ask("addGenerator", i, p);
      }
    }
    ask("addIdeal", 2);
    for (int i = 0; i < 5 && !wasRefused(); i++) {
      ask("addIdeal", 2);
    }
  }

  /** What a refused call left behind where results are reckoned would show in the next ones. */
  private void reckon() {
    ask("setOrder", 'l');
    int count = ask("polynomials");
    for (int p = count - 1; p >= Math.max(0, count - 6); p--) {
      tell(ask("normalForm", 0, p));
      tell(ask("multiply", p, p));
      tell(ask("substitute", p, 1, p));
      tell(ask("rewrite", p));
      tell(ask("add", p, p));
      tell(ask("derive", p, 0));
      tell(ask("quotient", p, p));
      tell(ask("factorAt", p, 0));
      ask("resultant", p, p);
      ask("partial", p, p, 0);
    }
  }

  private void tell(int polynomial) {
    if (polynomial < 0) {
      return;
    }
    int terms = Math.min(ask("terms", polynomial), 3);
    for (int i = 0; i < terms; i++) {
      ask("coefficientAt", polynomial, i);
      ask("exponentAt", polynomial, i, 0);
    }
  }

  private void askWhatIsKeptNext() {
    ask("isSound");
    if (ask("polynomials") > 0) {
      ask("lineShare");
      ask("meanTerms");
    }
    ask("constant", 13, 6);
    for (int i = 0; i < 61 && !wasRefused(); i++) {
      ask("constant", 0, 987000 + i);
    }
  }
}
