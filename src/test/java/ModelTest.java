import java.math.BigInteger;
import java.util.ArrayList;
import java.util.List;
import java.util.Random;

/** Runs of random calls on the program and on the model; each answer and each exception must be the same. */
public final class ModelTest {
  private static final int[] PRIMES = {2, 3, 5, 7, 11, 13};
  private static final char[] ORDERS = {'l', 'd', 'r'};
  private static final char[] SIGNS = {'+', '-', '0'};
  private static final int MIXED = 0;
  private static final int LINES = 1;
  private static final int IDEALS = 2;
  private static final int WHOLE = 3;
  private static final int RULES = 4;
  private static int wrong = 0;
  private static int thrown = 0;
  private static int answered = 0;

  interface Call {
    double run();
  }

  private final Random random;
  private final Polyforge x = new Polyforge();
  private final Model m = new Model();
  private final long seed;
  private final int ground;
  private final int theme;
  private int call = 0;

  ModelTest(long seed) {
    this.seed = seed;
    random = new Random(seed);
    theme = random.nextInt(5);
    ground = theme == WHOLE || theme == MIXED && random.nextInt(5) == 0 ? 0 : PRIMES[random.nextInt(6)];
  }

  public static void main(String[] args) {
    int runs = args.length > 0 ? Integer.parseInt(args[0]) : 400;
    long first = args.length > 1 ? Long.parseLong(args[1]) : 1;
    for (long seed = first; seed < first + runs && wrong < 20; seed++) {
      new ModelTest(seed).run();
    }
    System.out.println("ModelTest: " + answered + " answers and " + thrown + " exceptions compared, " + wrong + " wrong");
    if (wrong > 0) {
      System.exit(1);
    }
  }

  private static double outcome(Call c, String[] name) {
    try {
      double d = c.run();
      name[0] = "";
      return d;
    } catch (RuntimeException e) {
      // the machine's own exceptions have other classes, but for one, which shows by its message
      name[0] = "/ by zero".equals(e.getMessage()) ? "the machine's own" : e.getClass().getSimpleName();
      return 0;
    }
  }

  private void same(String what, Call mine, Call due) {
    call++;
    String[] a = new String[1];
    String[] b = new String[1];
    double got = outcome(mine, a);
    double want = outcome(due, b);
    if (!a[0].equals(b[0]) || got != want) {
      wrong++;
      System.out.println("seed " + seed + " call " + call + ": " + what + " answered " + got + a[0] + ", due is " + want
          + b[0]);
    }
    if (b[0].isEmpty()) {
      answered++;
    } else {
      thrown++;
    }
  }

  private int poly() {
    int n = m.kept.size();
    if (random.nextInt(40) == 0 || n == 0) {
      return random.nextInt(3) == 0 ? Integer.MIN_VALUE : random.nextBoolean() ? n : -1;
    }
    return random.nextInt(3) == 0 ? Math.max(0, n - 1 - random.nextInt(Math.min(n, 4))) : random.nextInt(n);
  }

  private int line() {
    for (int i = 0; i < 20; i++) {
      int p = poly();
      if (p < 0 || p >= m.kept.size() || Model.isLine(m.kept.get(p))) {
        return p;
      }
    }
    return poly();
  }

  private int var() {
    return theme == LINES && random.nextInt(6) > 0 ? 0 : random.nextInt(25) == 0 ? (random.nextBoolean() ? 3 : -1)
        : random.nextInt(3);
  }

  private int g() {
    int r = random.nextInt(60);
    return r == 0 ? 4 : r == 1 ? -3 : r == 2 ? 0 : r == 3 ? PRIMES[random.nextInt(6)] : r == 4 ? 17 : ground;
  }

  private int ideal() {
    int n = m.ideals.size();
    return random.nextInt(25) == 0 || n == 0 ? (random.nextBoolean() ? n : -1) : random.nextInt(n);
  }

  private char sign() {
    return random.nextInt(12) == 0 ? '?' : SIGNS[random.nextInt(3)];
  }

  private int small(int most) {
    return random.nextInt(15) == 0 ? (random.nextBoolean() ? most + 1 : -1) : random.nextInt(most + 1);
  }

  private void run() {
    prepare();
    for (int i = 0; i < 400 && wrong < 20; i++) {
      int kind = random.nextInt(3) > 0 ? favourite() : i < 6 ? random.nextInt(2) : random.nextInt(100);
      if (kind < 12) {
        make();
      } else if (kind < 36) {
        reckon();
      } else if (kind < 55) {
        ask();
      } else if (kind < 75) {
        lines();
      } else if (kind < 87) {
        ideals();
      } else {
        rules();
      }
    }
    final boolean sound = x.isSound();
    same("isSound()", () -> sound ? 1 : 0, () -> 1);
    for (int p = 0; p < m.kept.size(); p++) {
      compareTerms(p);
    }
  }

  private int favourite() {
    return theme == LINES ? 55 : theme == IDEALS ? 75 : theme == WHOLE ? 12 : theme == RULES ? 87 : random.nextInt(100);
  }

  private void prepare() {
    if (theme == LINES) {
      for (int i = 0; i < 2; i++) {
        randomLine(6);
      }
      int p = randomLine(2);
      int q = randomLine(3);
      same("power(" + p + ", 2)", () -> x.power(p, 2), () -> m.power(p, 2));
      same("multiply(" + p + ", " + q + ")", () -> x.multiply(p, q), () -> m.multiply(p, q));
    } else if (theme == IDEALS) {
      same("addIdeal(" + ground + ")", () -> x.addIdeal(ground), () -> m.addIdeal(ground));
      int many = 1 + random.nextInt(3);
      for (int i = 0; i < many; i++) {
        int p = randomPolynomial(3);
        same("addGenerator(0, " + p + ")", () -> x.addGenerator(0, p), () -> m.addGenerator(0, p));
      }
    } else if (theme == WHOLE) {
      int p = randomPolynomial(2);
      int c = random.nextInt(2000000) - 1000000;
      same("constant(0, " + c + ")", () -> x.constant(0, c), () -> m.constant(0, c));
      int k = m.constant(0, c);
      same("power(" + k + ", 2)", () -> x.power(k, 2), () -> m.power(k, 2));
      same("multiply(" + p + ", " + k + ")", () -> x.multiply(p, k), () -> m.multiply(p, k));
    } else if (theme == RULES) {
      randomPolynomial(3);
      randomPolynomial(2);
    }
  }

  private int randomLine(int degree) {
    int v = found("variable(" + ground + ", 0)", () -> x.variable(ground, 0), () -> m.variable(ground, 0));
    int p = found("constant", () -> x.constant(ground, 1), () -> m.constant(ground, 1));
    for (int i = 0; i < degree; i++) {
      int up = p;
      int moved = found("multiply", () -> x.multiply(up, v), () -> m.multiply(up, v));
      int c = random.nextInt(ground);
      int k = found("constant", () -> x.constant(ground, c), () -> m.constant(ground, c));
      p = found("add", () -> x.add(moved, k), () -> m.sum(moved, k, 1));
    }
    return p;
  }

  private int randomPolynomial(int degree) {
    int sum = found("constant", () -> x.constant(ground, 0), () -> m.constant(ground, 0));
    int terms = 1 + random.nextInt(4);
    for (int i = 0; i < terms; i++) {
      int c = ground == 0 ? random.nextInt(40) - 20 : 1 + random.nextInt(ground - 1);
      int t = found("constant", () -> x.constant(ground, c), () -> m.constant(ground, c));
      int d = random.nextInt(degree + 1);
      for (int j = 0; j < d; j++) {
        int v = random.nextInt(3);
        int before = t;
        int w = found("variable", () -> x.variable(ground, v), () -> m.variable(ground, v));
        t = found("multiply", () -> x.multiply(before, w), () -> m.multiply(before, w));
      }
      int a = sum;
      int b = t;
      sum = found("add", () -> x.add(a, b), () -> m.sum(a, b, 1));
    }
    return sum;
  }

  private int found(String what, Call mine, Call due) {
    int[] number = {0};
    same(what, mine, () -> number[0] = (int) due.run());
    return number[0];
  }

  private void compareTerms(int p) {
    for (int i = 0; i < Math.min(m.terms(p), 12); i++) {
      int t = i;
      same("coefficientAt(" + p + ", " + t + ")", () -> x.coefficientAt(p, t), () -> m.coefficientAt(p, t));
      for (int v = 0; v < 3; v++) {
        int w = v;
        same("exponentAt(" + p + ", " + t + ", " + w + ")", () -> x.exponentAt(p, t, w), () -> m.exponentAt(p, t, w));
      }
    }
  }

  private void make() {
    int g = g();
    if (random.nextInt(2) == 0) {
      int v = var();
      same("variable(" + g + ", " + v + ")", () -> x.variable(g, v), () -> m.variable(g, v));
    } else {
      int c = random.nextInt(8) == 0 ? random.nextInt() : random.nextInt(30) - 15;
      same("constant(" + g + ", " + c + ")", () -> x.constant(g, c), () -> m.constant(g, c));
    }
  }

  private void reckon() {
    int p = poly();
    int q = poly();
    int v = var();
    String two = "(" + p + ", " + q + ")";
    switch (random.nextInt(13)) {
      case 0, 1, 2 -> same("add" + two, () -> x.add(p, q), () -> m.sum(p, q, 1));
      case 3 -> same("subtract" + two, () -> x.subtract(p, q), () -> m.sum(p, q, -1));
      case 4, 5, 6 -> same("multiply" + two, () -> x.multiply(p, q), () -> m.multiply(p, q));
      case 7 -> {
        int e = small(random.nextBoolean() ? 3 : 9);
        same("power(" + p + ", " + e + ")", () -> x.power(p, e), () -> m.power(p, e));
      }
      case 8 -> same("derive(" + p + ", " + v + ")", () -> x.derive(p, v), () -> m.derive(p, v));
      case 9 -> same("integrate(" + p + ", " + v + ")", () -> x.integrate(p, v), () -> m.integrate(p, v));
      case 10 -> same("substitute(" + p + ", " + v + ", " + q + ")", () -> x.substitute(p, v, q),
          () -> m.substitute(p, v, q));
      case 11 -> same("primitive(" + p + ")", () -> x.primitive(p), () -> m.primitive(p));
      default -> {
        int r = random.nextInt(8) == 0 ? random.nextInt(15) - 1 : PRIMES[random.nextInt(6)];
        same("modulo(" + p + ", " + r + ")", () -> x.modulo(p, r), () -> m.modulo(p, r));
      }
    }
  }

  private void ask() {
    int p = poly();
    int v = var();
    int i = small(6);
    switch (random.nextInt(13)) {
      case 0 -> same("polynomials()", () -> x.polynomials(), () -> m.polynomials());
      case 1 -> same("ground(" + p + ")", () -> x.ground(p), () -> m.ground(p));
      case 2 -> same("terms(" + p + ")", () -> x.terms(p), () -> m.terms(p));
      case 3 -> same("degree(" + p + ")", () -> x.degree(p), () -> m.degree(p));
      case 4 -> same("degreeIn(" + p + ", " + v + ")", () -> x.degreeIn(p, v), () -> m.degreeIn(p, v));
      case 5, 6 -> same("coefficientAt(" + p + ", " + i + ")", () -> x.coefficientAt(p, i), () -> m.coefficientAt(p, i));
      case 7, 8 -> same("exponentAt(" + p + ", " + i + ", " + v + ")", () -> x.exponentAt(p, i, v),
          () -> m.exponentAt(p, i, v));
      case 9 -> {
        char o = random.nextInt(15) == 0 ? 'x' : ORDERS[random.nextInt(3)];
        same("setOrder(" + o + ")", () -> x.setOrder(o), () -> m.setOrder(o));
      }
      case 10 -> {
        int a = small(99);
        int b = small(99);
        int c = small(99);
        same("value(" + p + ", " + a + ", " + b + ", " + c + ")", () -> x.value(p, a, b, c), () -> m.value(p, a, b, c));
      }
      case 11 -> same("content(" + p + ")", () -> x.content(p), () -> m.content(p));
      default -> {
        same("lineShare()", () -> x.lineShare(), () -> m.lineShare());
        same("meanTerms()", () -> x.meanTerms(), () -> m.meanTerms());
      }
    }
  }

  private void lines() {
    int p = line();
    int q = line();
    int i = small(3);
    String two = "(" + p + ", " + q + ")";
    String three = "(" + p + ", " + q + ", " + i + ")";
    switch (random.nextInt(13)) {
      case 0 -> same("quotient" + two, () -> x.quotient(p, q), () -> m.quotient(p, q, 0));
      case 1 -> same("remainder" + two, () -> x.remainder(p, q), () -> m.quotient(p, q, 1));
      case 2 -> same("divisor" + two, () -> x.divisor(p, q), () -> m.divisor(p, q));
      case 3 -> same("factors(" + p + ")", () -> x.factors(p), () -> m.factors(p));
      case 4 -> same("factorAt(" + p + ", " + i + ")", () -> x.factorAt(p, i), () -> m.factorAt(p, i));
      case 5 -> same("multiplicity(" + p + ", " + i + ")", () -> x.multiplicity(p, i), () -> m.multiplicity(p, i));
      case 6 -> same("isIrreducible(" + p + ")", () -> x.isIrreducible(p) ? 1 : 0, () -> m.isIrreducible(p) ? 1 : 0);
      case 7 -> same("roots(" + p + ")", () -> x.roots(p), () -> m.roots(p));
      case 8 -> same("resultant" + two, () -> x.resultant(p, q), () -> m.resultant(p, q));
      case 9 -> same("resultantByDeterminant" + two, () -> x.resultantByDeterminant(p, q), () -> m.resultant(p, q));
      case 10 -> {
        int k = small(30);
        same("series(" + p + ", " + q + ", " + k + ")", () -> x.series(p, q, k), () -> m.series(p, q, k));
      }
      case 11 -> {
        int place = small(Math.max(ground - 1, 1));
        same("limit(" + p + ", " + q + ", " + place + ")", () -> x.limit(p, q, place), () -> m.limit(p, q, place));
      }
      default -> same("partial" + three, () -> x.partial(p, q, i), () -> m.partial(p, q, i));
    }
  }

  /** The basis that the program tells, proved once for each order. */
  private List<Model.Poly> basis(int n) {
    Model.Ideal ideal = m.ideal(n);
    List<Model.Poly> known = ideal.bases.get(m.order);
    if (known == null) {
      known = new ArrayList<>();
      int count = x.basis(n);
      for (int i = 0; i < count; i++) {
        Model.Poly p = new Model.Poly(ideal.prime);
        for (int t = 0; t < x.basisTerms(n, i); t++) {
          p.put(new Model.Mono(x.basisExponent(n, i, t, 0), x.basisExponent(n, i, t, 1), x.basisExponent(n, i, t, 2)),
              BigInteger.valueOf(x.basisCoefficient(n, i, t)));
        }
        known.add(p);
      }
      String fault = Model.checkBasis(known, ideal, m.order);
      if (fault != null) {
        wrong++;
        System.out.println("seed " + seed + ": the basis of " + n + " in " + m.order + ": " + fault);
      }
      ideal.bases.put(m.order, known);
    }
    return known;
  }

  private void ideals() {
    int n = ideal();
    int p = poly();
    int i = small(3);
    int t = small(3);
    int v = random.nextInt(15) == 0 ? 3 : random.nextInt(3);
    switch (random.nextInt(12)) {
      case 0 -> {
        int q = random.nextInt(6) == 0 ? random.nextInt(15) : ground;
        same("addIdeal(" + q + ")", () -> x.addIdeal(q), () -> m.addIdeal(q));
      }
      case 1, 2, 3 -> same("addGenerator(" + n + ", " + p + ")", () -> x.addGenerator(n, p), () -> m.addGenerator(n, p));
      case 4 -> same("basis(" + n + ")", () -> x.basis(n), () -> basis(n).size());
      case 5 -> same("basisTerms(" + n + ", " + i + ")", () -> x.basisTerms(n, i), () -> element(n, i).terms.size());
      case 6 -> same("basisCoefficient(" + n + ", " + i + ", " + t + ")", () -> x.basisCoefficient(n, i, t),
          () -> element(n, i).terms.get(term(element(n, i), t)).intValue());
      case 7 -> same("basisExponent(" + n + ", " + i + ", " + t + ", " + v + ")", () -> x.basisExponent(n, i, t, v),
          () -> exponent(element(n, i), t, v));
      case 8, 9 -> same("normalForm(" + n + ", " + p + ")", () -> x.normalForm(n, p),
          () -> m.normalForm(basis(n), n, p));
      case 10 -> same("isIn(" + n + ", " + p + ")", () -> x.isIn(n, p) ? 1 : 0, () -> m.isIn(basis(n), n, p) ? 1 : 0);
      default -> same("size(" + n + ")", () -> x.size(n), () -> m.size(basis(n)));
    }
  }

  private Model.Poly element(int n, int i) {
    List<Model.Poly> basis = basis(n);
    Model.exist(i >= 0 && i < basis.size());
    return basis.get(i);
  }

  private Model.Mono term(Model.Poly p, int t) {
    if (t < 0 || t >= p.terms.size()) {
      throw new IndexOutOfBoundsException();
    }
    return p.sorted(m.order).get(t);
  }

  private int exponent(Model.Poly p, int t, int v) {
    Model.variableIs(v);
    return term(p, t).at(v);
  }

  private void rules() {
    int p = poly();
    int v = var();
    char s = sign();
    switch (random.nextInt(12)) {
      case 0, 1, 2 -> {
        int a = random.nextInt(4);
        int b = random.nextInt(8) == 0 ? (random.nextBoolean() ? -1 : 7) : random.nextInt(3);
        int c = random.nextInt(30) == 0 ? Integer.MAX_VALUE : random.nextInt(2);
        int w = random.nextBoolean() ? -1 : random.nextInt(15) == 0 ? -2 : v;
        same("addRule(" + a + ", " + b + ", " + c + ", " + p + ", " + w + ", " + s + ")",
            () -> x.addRule(a, b, c, p, w, s), () -> m.addRule(a, b, c, p, w, s));
      }
      case 3, 4 -> same("assume(" + v + ", " + s + ")", () -> x.assume(v, s), () -> m.assume(v, s));
      case 5 -> same("openFrame()", () -> x.openFrame(), () -> m.openFrame());
      case 6 -> same("closeFrame()", () -> x.closeFrame(), () -> m.closeFrame());
      case 7 -> same("sign(" + v + ")", () -> x.sign(v), () -> m.sign(v));
      case 8, 9 -> same("rewrite(" + p + ")", () -> x.rewrite(p), () -> m.rewrite(p));
      default -> same("steps(" + p + ")", () -> x.steps(p), () -> m.steps(p));
    }
  }
}
