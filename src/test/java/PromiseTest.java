import java.util.NoSuchElementException;

/** Each promise of the document by hand: ordinary inputs, the edges that it names, and wrong inputs. */
public final class PromiseTest {
  private static final Class<IndexOutOfBoundsException> INDEX = IndexOutOfBoundsException.class;
  private static final Class<IllegalArgumentException> ARGUMENT = IllegalArgumentException.class;
  private static final Class<IllegalStateException> STATE = IllegalStateException.class;
  private static final Class<UnsupportedOperationException> UNSUPPORTED = UnsupportedOperationException.class;
  private static final Class<ArithmeticException> ARITHMETIC = ArithmeticException.class;
  private static final Class<NoSuchElementException> MISSING = NoSuchElementException.class;
  private static final int[] PRIMES = {2, 3, 5, 7, 11, 13};

  private static int wrong = 0;
  private static int checked = 0;
  private static int promise = 0;

  interface Call {
    Object run();
  }

  private static void due(String call, double got, double want) {
    checked++;
    if (got != want) {
      wrong++;
      System.out.println("promise " + promise + ": " + call + " answered " + got + ", due is " + want);
    }
  }

  private static void due(String call, boolean got, boolean want) {
    due(call, got ? 1 : 0, want ? 1 : 0);
  }

  /** The call must throw just this, and change nothing. */
  private static void refuses(Polyforge x, String call, Class<? extends RuntimeException> want, Call c) {
    String before = state(x);
    String got = "nothing";
    try {
      c.run();
    } catch (RuntimeException e) {
      got = e.getClass().getSimpleName();
    }
    checked++;
    if (!got.equals(want.getSimpleName())) {
      wrong++;
      System.out.println("promise " + promise + ": " + call + " threw " + got + ", due is " + want.getSimpleName());
    }
    if (!state(x).equals(before)) {
      wrong++;
      System.out.println("promise " + promise + ": " + call + " threw, but changed something");
    }
  }

  private static String tried(Call c) {
    try {
      return String.valueOf(c.run());
    } catch (RuntimeException e) {
      return e.getClass().getSimpleName();
    }
  }

  /** All that can be asked without changing anything, but for terms far behind in long polynomials. */
  private static String state(Polyforge x) {
    StringBuilder s = new StringBuilder();
    char order = x.setOrder('l');
    x.setOrder(order);
    s.append(order).append(x.sign(0)).append(x.sign(1)).append(x.sign(2));
    for (int p = 0; p < x.polynomials(); p++) {
      int number = p;
      s.append('|').append(x.ground(p)).append(',').append(x.terms(p)).append(',').append(tried(() -> x.steps(number)));
      for (int i = 0; i < Math.min(x.terms(p), 5); i++) {
        s.append(' ').append(x.coefficientAt(p, i)).append(':').append(x.exponentAt(p, i, 0)).append('.')
            .append(x.exponentAt(p, i, 1)).append('.').append(x.exponentAt(p, i, 2));
      }
    }
    for (int n = 0; n < 5; n++) {
      int number = n;
      s.append('|').append(tried(() -> x.basis(number))).append(tried(() -> x.size(number)));
    }
    return s.toString();
  }

  /** A polynomial from rows of a coefficient and three exponents. */
  private static int make(Polyforge x, int ground, int... rows) {
    int sum = x.constant(ground, 0);
    for (int i = 0; i < rows.length; i += 4) {
      int term = x.constant(ground, rows[i]);
      for (int v = 0; v < 3; v++) {
        for (int e = 0; e < rows[i + 1 + v]; e++) {
          term = x.multiply(term, x.variable(ground, v));
        }
      }
      sum = x.add(sum, term);
    }
    return sum;
  }

  /** A line from its coefficients, from the greatest exponent on. */
  private static int line(Polyforge x, int prime, int... coefficients) {
    int sum = x.constant(prime, 0);
    for (int c : coefficients) {
      sum = x.add(x.multiply(sum, x.variable(prime, 0)), x.constant(prime, c));
    }
    return sum;
  }

  private static void isTerm(Polyforge x, int p, int index, long coefficient, int a, int b, int c) {
    due("coefficientAt(" + p + ", " + index + ")", x.coefficientAt(p, index), coefficient);
    due("exponentAt(" + p + ", " + index + ", 0)", x.exponentAt(p, index, 0), a);
    due("exponentAt(" + p + ", " + index + ", 1)", x.exponentAt(p, index, 1), b);
    due("exponentAt(" + p + ", " + index + ", 2)", x.exponentAt(p, index, 2), c);
  }

  /** Fills an object up to 60 polynomials, the last of them constants of the ground 0. */
  private static void fill(Polyforge x) {
    for (int i = 1000; x.polynomials() < 60; i++) {
      x.constant(0, i);
    }
  }

  public static void main(String[] args) {
    newObject();
    constants();
    variables();
    sums();
    products();
    powers();
    parts();
    orders();
    derivatives();
    integrals();
    substitutions();
    values();
    wholeNumbers();
    quotients();
    divisors();
    factors();
    irreducibles();
    roots();
    resultants();
    series();
    limits();
    partials();
    ideals();
    bases();
    normalForms();
    sizes();
    rules();
    frames();
    rewriting();
    shares();
    soundness();
    System.out.println("PromiseTest: " + checked + " checks, " + wrong + " wrong");
    if (wrong > 0) {
      System.exit(1);
    }
  }

  private static void newObject() {
    promise = 1;
    Polyforge x = new Polyforge();
    due("polynomials()", x.polynomials(), 0);
    due("setOrder('l')", x.setOrder('l'), 'l');
    due("sign(0)", x.sign(0), '?');
    due("isSound()", x.isSound(), true);
    refuses(x, "basis(0)", MISSING, () -> x.basis(0));
    refuses(x, "closeFrame()", STATE, () -> x.closeFrame());
    x.constant(0, 1);
    due("polynomials() of another one", new Polyforge().polynomials(), 0);
  }

  private static void constants() {
    promise = 2;
    Polyforge x = new Polyforge();
    due("constant(0, -7)", x.constant(0, -7), 0);
    isTerm(x, 0, 0, -7, 0, 0, 0);
    due("constant(0, MIN)", x.constant(0, Integer.MIN_VALUE), 1);
    isTerm(x, 1, 0, Integer.MIN_VALUE, 0, 0, 0);
    due("constant(5, -1)", x.constant(5, -1), 2);
    isTerm(x, 2, 0, 4, 0, 0, 0);
    due("constant(5, 9)", x.constant(5, 9), 2);
    due("constant(5, MIN)", x.constant(5, Integer.MIN_VALUE), x.constant(5, 2));
    int zero = x.constant(7, 14);
    due("terms of constant(7, 14)", x.terms(zero), 0);
    due("constant(3, 0) is another one", x.constant(3, 0) != zero, true);
    for (int prime : PRIMES) {
      due("ground", x.ground(x.constant(prime, 1)), prime);
    }
    for (int ground : new int[] {1, 4, 6, 9, 14, 17, -1, -2, Integer.MIN_VALUE, Integer.MAX_VALUE}) {
      refuses(x, "constant(" + ground + ", 1)", ARGUMENT, () -> x.constant(ground, 1));
    }
    fill(x);
    due("polynomials()", x.polynomials(), 60);
    due("constant(0, -7) again", x.constant(0, -7), 0);
    refuses(x, "constant(0, 5) as the 61st", STATE, () -> x.constant(0, 5));
    refuses(x, "constant(4, 5) as the 61st", ARGUMENT, () -> x.constant(4, 5));
  }

  private static void variables() {
    promise = 3;
    Polyforge x = new Polyforge();
    due("variable(0, 2)", x.variable(0, 2), 0);
    isTerm(x, 0, 0, 1, 0, 0, 1);
    due("variable(2, 0)", x.variable(2, 0), 1);
    isTerm(x, 1, 0, 1, 1, 0, 0);
    due("variable(2, 1)", x.variable(2, 1), 2);
    isTerm(x, 2, 0, 1, 0, 1, 0);
    due("variable(2, 0) again", x.variable(2, 0), 1);
    refuses(x, "variable(2, 3)", ARGUMENT, () -> x.variable(2, 3));
    refuses(x, "variable(2, -1)", ARGUMENT, () -> x.variable(2, -1));
    refuses(x, "variable(8, 0)", ARGUMENT, () -> x.variable(8, 0));
    fill(x);
    refuses(x, "variable(3, 0) as the 61st", STATE, () -> x.variable(3, 0));
    refuses(x, "variable(3, 3) as the 61st", ARGUMENT, () -> x.variable(3, 3));
  }

  /** The million millions, the greatest coefficient. */
  private static int greatest(Polyforge x) {
    return x.power(x.constant(0, 1000000), 2);
  }

  private static void sums() {
    Polyforge x = new Polyforge();
    int a = make(x, 0, 3, 2, 0, 0, -1, 0, 1, 0);
    int b = make(x, 0, 1, 0, 1, 0, 5, 0, 0, 3);
    promise = 4;
    int s = x.add(a, b);
    due("terms", x.terms(s), 2);
    isTerm(x, s, 0, 3, 2, 0, 0);
    isTerm(x, s, 1, 5, 0, 0, 3);
    due("add(b, a)", x.add(b, a), s);
    due("add(a, a)", x.coefficientAt(x.add(a, a), 0), 6);
    int top = greatest(x);
    int one = x.constant(0, 1);
    refuses(x, "add beyond the greatest coefficient", ARITHMETIC, () -> x.add(top, one));
    int below = x.add(top, x.constant(0, -1));
    due("add up to the greatest coefficient", x.add(below, one), top);
    int other = x.constant(3, 1);
    refuses(x, "add over two grounds", UNSUPPORTED, () -> x.add(top, other));
    refuses(x, "add(-1, a)", INDEX, () -> x.add(-1, a));
    refuses(x, "add(a, count)", INDEX, () -> x.add(a, x.polynomials()));
    promise = 5;
    int d = x.subtract(a, b);
    isTerm(x, d, 1, -2, 0, 1, 0);
    isTerm(x, d, 2, -5, 0, 0, 3);
    due("subtract(a, a)", x.subtract(a, a), x.constant(0, 0));
    due("subtract over 3", x.coefficientAt(x.subtract(x.constant(3, 0), other), 0), 2);
    int least = x.subtract(x.constant(0, 0), top);
    due("least coefficient", x.coefficientAt(least, 0), -1000000000000.0);
    refuses(x, "subtract below the least coefficient", ARITHMETIC, () -> x.subtract(least, one));
    refuses(x, "subtract over two grounds", UNSUPPORTED, () -> x.subtract(other, one));
    refuses(x, "subtract(a, -1)", INDEX, () -> x.subtract(a, -1));
    int b2 = x.add(b, b);
    fill(x);
    promise = 4;
    due("add that is known", x.add(a, b), s);
    refuses(x, "add as the 61st", STATE, () -> x.add(b2, b2));
    refuses(x, "add out of range as the 61st", ARITHMETIC, () -> x.add(top, one));
    promise = 5;
    refuses(x, "subtract as the 61st", STATE, () -> x.subtract(b2, top));
    refuses(x, "subtract out of range as the 61st", ARITHMETIC, () -> x.subtract(least, one));
  }

  private static void products() {
    promise = 6;
    Polyforge x = new Polyforge();
    int a = make(x, 0, 2, 1, 0, 0, 3, 0, 0, 1);
    int b = make(x, 0, 2, 1, 0, 0, -3, 0, 0, 1);
    int p = x.multiply(a, b);
    due("terms", x.terms(p), 2);
    isTerm(x, p, 0, 4, 2, 0, 0);
    isTerm(x, p, 1, -9, 0, 0, 2);
    int zero = x.constant(0, 0);
    due("multiply by nothing", x.multiply(a, zero), zero);
    int top = greatest(x);
    int two = x.constant(0, 2);
    refuses(x, "multiply out of range", ARITHMETIC, () -> x.multiply(top, two));
    int million = x.constant(0, 1000001);
    int up = x.add(x.variable(0, 0), million);
    int down = x.subtract(x.variable(0, 0), million);
    refuses(x, "multiply with one product of terms out of range", ARITHMETIC, () -> x.multiply(up, down));
    Polyforge y = new Polyforge();
    int far = y.power(y.power(y.variable(2, 1), 5), 6);
    due("exponent 30", y.exponentAt(far, 0, 1), 30);
    int v = y.variable(2, 1);
    refuses(y, "multiply beyond the exponent 30", ARITHMETIC, () -> y.multiply(far, v));
    due("multiply with another variable", y.degree(y.multiply(far, y.variable(2, 0))), 31);
    int one = y.constant(2, 1);
    int sum = y.add(v, one);
    due("(y + 1) squared over 2", y.terms(y.multiply(sum, sum)), 2);
    int three = y.constant(3, 1);
    refuses(y, "multiply over two grounds", UNSUPPORTED, () -> y.multiply(one, three));
    refuses(y, "multiply(99, 0)", INDEX, () -> y.multiply(99, 0));
    int none = y.constant(2, 0);
    int sumOfOther = y.add(y.variable(2, 0), one);
    fill(y);
    due("multiply by nothing, kept", y.multiply(far, none), none);
    refuses(y, "multiply out of range as the 61st", ARITHMETIC, () -> y.multiply(far, v));
    refuses(y, "multiply as the 61st", STATE, () -> y.multiply(far, sumOfOther));
  }

  private static void powers() {
    promise = 7;
    Polyforge x = new Polyforge();
    int a = make(x, 0, 1, 1, 0, 0, -2, 0, 0, 0);
    int p = x.power(a, 3);
    isTerm(x, p, 0, 1, 3, 0, 0);
    isTerm(x, p, 1, -6, 2, 0, 0);
    isTerm(x, p, 2, 12, 1, 0, 0);
    isTerm(x, p, 3, -8, 0, 0, 0);
    due("power(a, 0)", x.power(a, 0), x.constant(0, 1));
    due("power(a, 1)", x.power(a, 1), a);
    int zero = x.constant(5, 0);
    due("power(nothing, 0)", x.power(zero, 0), x.constant(5, 1));
    due("power(nothing, 9)", x.power(zero, 9), zero);
    due("power(a, 9)", x.coefficientAt(x.power(a, 9), 9), -512);
    refuses(x, "power(a, 10)", ARGUMENT, () -> x.power(a, 10));
    refuses(x, "power(a, -1)", ARGUMENT, () -> x.power(a, -1));
    refuses(x, "power(77, -1)", INDEX, () -> x.power(77, -1));
    int hundred = x.constant(0, 100);
    due("100^6", x.coefficientAt(x.power(hundred, 6), 0), 1000000000000.0);
    refuses(x, "100^7", ARITHMETIC, () -> x.power(hundred, 7));
    int cube = make(x, 7, 1, 0, 0, 4);
    due("degree of (z^4)^7", x.degree(x.power(cube, 7)), 28);
    refuses(x, "(z^4)^8", ARITHMETIC, () -> x.power(cube, 8));
    fill(x);
    refuses(x, "(z^4)^8 as the 61st", ARITHMETIC, () -> x.power(cube, 8));
    refuses(x, "power as the 61st", STATE, () -> x.power(a, 4));
    due("power that is known", x.power(a, 3), p);
  }

  private static void parts() {
    Polyforge x = new Polyforge();
    int a = make(x, 11, 5, 2, 1, 0, 7, 0, 3, 4, 1, 0, 0, 0);
    int zero = x.constant(11, 0);
    int count = x.polynomials();
    promise = 8;
    due("polynomials()", count, x.constant(0, 0));
    promise = 9;
    due("ground", x.ground(a), 11);
    due("ground of nothing", x.ground(zero), 11);
    refuses(x, "ground(-1)", INDEX, () -> x.ground(-1));
    refuses(x, "ground(60)", INDEX, () -> x.ground(60));
    promise = 10;
    due("terms", x.terms(a), 3);
    due("terms of nothing", x.terms(zero), 0);
    refuses(x, "terms(count)", INDEX, () -> x.terms(x.polynomials()));
    promise = 11;
    due("degree", x.degree(a), 7);
    due("degree of nothing", x.degree(zero), -1);
    due("degree of a constant", x.degree(x.constant(11, 3)), 0);
    refuses(x, "degree(-5)", INDEX, () -> x.degree(-5));
    promise = 12;
    due("degreeIn(a, 0)", x.degreeIn(a, 0), 2);
    due("degreeIn(a, 1)", x.degreeIn(a, 1), 3);
    due("degreeIn(a, 2)", x.degreeIn(a, 2), 4);
    due("degreeIn of nothing", x.degreeIn(zero, 1), -1);
    refuses(x, "degreeIn(a, 3)", ARGUMENT, () -> x.degreeIn(a, 3));
    refuses(x, "degreeIn(a, -1)", ARGUMENT, () -> x.degreeIn(a, -1));
    refuses(x, "degreeIn(99, 3)", INDEX, () -> x.degreeIn(99, 3));
    promise = 13;
    due("coefficientAt(a, 0)", x.coefficientAt(a, 0), 5);
    due("coefficientAt(a, 1)", x.coefficientAt(a, 1), 7);
    due("coefficientAt(a, 2)", x.coefficientAt(a, 2), 1);
    refuses(x, "coefficientAt(a, 3)", MISSING, () -> x.coefficientAt(a, 3));
    refuses(x, "coefficientAt(a, -1)", MISSING, () -> x.coefficientAt(a, -1));
    refuses(x, "coefficientAt(nothing, 0)", MISSING, () -> x.coefficientAt(zero, 0));
    refuses(x, "coefficientAt(99, -1)", INDEX, () -> x.coefficientAt(99, -1));
    promise = 14;
    due("exponentAt(a, 1, 2)", x.exponentAt(a, 1, 2), 4);
    due("exponentAt(a, 2, 0)", x.exponentAt(a, 2, 0), 0);
    refuses(x, "exponentAt(a, 3, 0)", MISSING, () -> x.exponentAt(a, 3, 0));
    refuses(x, "exponentAt(a, 3, 3)", ARGUMENT, () -> x.exponentAt(a, 3, 3));
    refuses(x, "exponentAt(99, 3, 3)", INDEX, () -> x.exponentAt(99, 3, 3));
  }

  private static void orders() {
    promise = 15;
    Polyforge x = new Polyforge();
    // x^2 z^2, x y^3, x, y^4, z^5
    int a = make(x, 13, 1, 2, 0, 2, 2, 1, 3, 0, 3, 1, 0, 0, 4, 0, 4, 0, 5, 0, 0, 5);
    isOrdered(x, a, 1, 2, 3, 4, 5);
    due("setOrder('d')", x.setOrder('d'), 'l');
    isOrdered(x, a, 5, 1, 2, 4, 3);
    due("setOrder('r')", x.setOrder('r'), 'd');
    isOrdered(x, a, 5, 2, 4, 1, 3);
    promise = 14;
    due("exponentAt in r", x.exponentAt(a, 1, 1), 3);
    due("exponentAt in r", x.exponentAt(a, 3, 2), 2);
    promise = 13;
    refuses(x, "coefficientAt(a, 5) in r", MISSING, () -> x.coefficientAt(a, 5));
    promise = 15;
    for (char wrongOrder : new char[] {'x', 'L', 'D', 'R', (char) 0, (char) 65535}) {
      refuses(x, "setOrder", ARGUMENT, () -> x.setOrder(wrongOrder));
    }
    due("setOrder('r')", x.setOrder('r'), 'r');
    due("setOrder('l')", x.setOrder('l'), 'r');
    isOrdered(x, a, 1, 2, 3, 4, 5);
  }

  private static void isOrdered(Polyforge x, int p, int... coefficients) {
    for (int i = 0; i < coefficients.length; i++) {
      due("coefficientAt(a, " + i + ")", x.coefficientAt(p, i), coefficients[i]);
    }
  }

  private static void derivatives() {
    promise = 16;
    Polyforge x = new Polyforge();
    int a = make(x, 5, 2, 3, 1, 0, 4, 5, 0, 1, 1, 0, 2, 0);
    int d = x.derive(a, 0);
    due("terms", x.terms(d), 1);
    isTerm(x, d, 0, 1, 2, 1, 0);
    isTerm(x, x.derive(a, 1), 0, 2, 3, 0, 0);
    isTerm(x, x.derive(a, 2), 0, 4, 5, 0, 0);
    int zero = x.constant(5, 0);
    due("derive of a constant", x.derive(x.constant(5, 3), 0), zero);
    due("derive of nothing", x.derive(zero, 2), zero);
    int top = x.multiply(greatest(x), x.variable(0, 1));
    due("derive", x.derive(top, 1), greatest(x));
    int square = x.multiply(top, x.variable(0, 1));
    refuses(x, "derive out of range", ARITHMETIC, () -> x.derive(square, 1));
    refuses(x, "derive(a, 3)", ARGUMENT, () -> x.derive(a, 3));
    refuses(x, "derive(a, -1)", ARGUMENT, () -> x.derive(a, -1));
    refuses(x, "derive(99, 3)", INDEX, () -> x.derive(99, 3));
    fill(x);
    refuses(x, "derive out of range as the 61st", ARITHMETIC, () -> x.derive(square, 1));
    refuses(x, "derive as the 61st", STATE, () -> x.derive(d, 0));
  }

  private static void integrals() {
    promise = 17;
    Polyforge x = new Polyforge();
    int a = make(x, 0, 6, 2, 1, 0, -9, 2, 0, 0);
    int i = x.integrate(a, 0);
    isTerm(x, i, 0, 2, 3, 1, 0);
    isTerm(x, i, 1, -3, 3, 0, 0);
    int odd = make(x, 0, 4, 2, 1, 0, 5, 0, 1, 0);
    refuses(x, "integrate that does not divide", UNSUPPORTED, () -> x.integrate(odd, 1));
    isTerm(x, x.integrate(a, 2), 1, -9, 2, 0, 1);
    int b = make(x, 5, 3, 1, 0, 0, 2, 0, 3, 0);
    isTerm(x, x.integrate(b, 0), 0, 4, 2, 0, 0);
    int four = make(x, 5, 1, 4, 0, 0);
    refuses(x, "integrate to a multiple of the prime", UNSUPPORTED, () -> x.integrate(four, 0));
    due("integrate nothing", x.integrate(x.constant(0, 0), 1), x.constant(0, 0));
    int far = x.power(x.power(x.variable(3, 2), 5), 6);
    refuses(x, "integrate beyond the exponent 30", ARITHMETIC, () -> x.integrate(far, 2));
    int both = x.add(far, x.power(x.variable(3, 2), 2));
    refuses(x, "integrate that is both", UNSUPPORTED, () -> x.integrate(both, 2));
    refuses(x, "integrate(a, 3)", ARGUMENT, () -> x.integrate(a, 3));
    refuses(x, "integrate(99, 3)", INDEX, () -> x.integrate(99, 3));
    fill(x);
    refuses(x, "integrate out of range as the 61st", ARITHMETIC, () -> x.integrate(far, 2));
    refuses(x, "integrate as the 61st", STATE, () -> x.integrate(far, 1));
    refuses(x, "integrate that does not divide as the 61st", UNSUPPORTED, () -> x.integrate(odd, 1));
  }

  private static void substitutions() {
    promise = 18;
    Polyforge x = new Polyforge();
    int a = make(x, 7, 3, 2, 1, 0, 1, 1, 0, 0, 5, 0, 0, 1);
    int b = make(x, 7, 1, 0, 1, 0, 2, 0, 0, 0);
    // 3 (y + 2)^2 y + (y + 2) + 5 z = 3 y^3 + 5 y^2 + 6 y + 2 + 5 z
    int s = x.substitute(a, 0, b);
    due("terms", x.terms(s), 5);
    isTerm(x, s, 0, 3, 0, 3, 0);
    isTerm(x, s, 1, 5, 0, 2, 0);
    isTerm(x, s, 2, 6, 0, 1, 0);
    isTerm(x, s, 3, 5, 0, 0, 1);
    isTerm(x, s, 4, 2, 0, 0, 0);
    int zero = x.constant(7, 0);
    due("substitute nothing", x.substitute(a, 0, zero), make(x, 7, 5, 0, 0, 1));
    due("substitute in nothing", x.substitute(zero, 0, b), zero);
    due("substitute itself", x.substitute(a, 0, x.variable(7, 0)), a);
    int y16 = make(x, 7, 1, 0, 4, 0);
    int y8 = x.power(y16, 2);
    int y15 = x.multiply(y8, make(x, 7, 1, 0, 7, 0));
    int square = make(x, 7, 1, 2, 0, 0);
    due("substitute up to 30", x.degreeIn(x.substitute(square, 0, y15), 1), 30);
    int more = x.multiply(square, x.variable(7, 1));
    refuses(x, "substitute beyond 30 with what is left", ARITHMETIC, () -> x.substitute(more, 0, y15));
    int cube = make(x, 7, 1, 3, 0, 0);
    refuses(x, "substitute beyond 30 in a power", ARITHMETIC, () -> x.substitute(cube, 0, y15));
    int whole = x.variable(0, 0);
    refuses(x, "substitute over whole numbers", UNSUPPORTED, () -> x.substitute(whole, 0, whole));
    refuses(x, "substitute over two grounds", UNSUPPORTED, () -> x.substitute(a, 0, whole));
    refuses(x, "substitute(whole, 3, whole)", ARGUMENT, () -> x.substitute(whole, 3, whole));
    refuses(x, "substitute(a, 3, 99)", INDEX, () -> x.substitute(a, 3, 99));
    refuses(x, "substitute(-1, 0, a)", INDEX, () -> x.substitute(-1, 0, a));
    fill(x);
    refuses(x, "substitute beyond 30 as the 61st", ARITHMETIC, () -> x.substitute(cube, 0, y15));
    refuses(x, "substitute as the 61st", STATE, () -> x.substitute(y15, 1, square));
  }

  private static void values() {
    promise = 19;
    Polyforge x = new Polyforge();
    int a = make(x, 11, 3, 2, 1, 0, 7, 0, 0, 3, 10, 0, 0, 0);
    due("value(a, 2, 5, 3)", x.value(a, 2, 5, 3), (3 * 4 * 5 + 7 * 27 + 10) % 11);
    due("value(a, 99, 99, 99)", x.value(a, 99, 99, 99), 10);
    due("value(a, 0, 0, 0)", x.value(a, 0, 0, 0), 10);
    due("value of nothing", x.value(x.constant(11, 0), 1, 2, 3), 0);
    refuses(x, "value(a, 100, 0, 0)", ARGUMENT, () -> x.value(a, 100, 0, 0));
    refuses(x, "value(a, 0, -1, 0)", ARGUMENT, () -> x.value(a, 0, -1, 0));
    refuses(x, "value(a, 0, 0, 100)", ARGUMENT, () -> x.value(a, 0, 0, 100));
    int whole = x.constant(0, 1);
    refuses(x, "value(whole, 0, 0, 0)", UNSUPPORTED, () -> x.value(whole, 0, 0, 0));
    refuses(x, "value(whole, 0, 0, 100)", ARGUMENT, () -> x.value(whole, 0, 0, 100));
    refuses(x, "value(99, 0, 0, 100)", INDEX, () -> x.value(99, 0, 0, 100));
  }

  private static void wholeNumbers() {
    Polyforge x = new Polyforge();
    int a = make(x, 0, -12, 2, 0, 0, 18, 0, 1, 0, 30, 0, 0, 0);
    int zero = x.constant(0, 0);
    int over = x.constant(5, 3);
    promise = 20;
    due("content", x.content(a), 6);
    due("content of nothing", x.content(zero), 0);
    due("content of -9", x.content(x.constant(0, -9)), 9);
    due("content of 10^12", x.content(greatest(x)), 1000000000000.0);
    refuses(x, "content over 5", UNSUPPORTED, () -> x.content(over));
    refuses(x, "content(99)", INDEX, () -> x.content(99));
    promise = 21;
    int p = x.primitive(a);
    isTerm(x, p, 0, 2, 2, 0, 0);
    isTerm(x, p, 1, -3, 0, 1, 0);
    isTerm(x, p, 2, -5, 0, 0, 0);
    due("primitive(p)", x.primitive(p), p);
    due("primitive of nothing", x.primitive(zero), zero);
    int signs = make(x, 0, 2, 1, 0, 0, -4, 0, 0, 2);
    isTerm(x, x.primitive(signs), 0, 1, 1, 0, 0);
    x.setOrder('d');
    due("primitive looks at the order l alone", x.coefficientAt(x.primitive(signs), 0), -2);
    x.setOrder('l');
    refuses(x, "primitive over 5", UNSUPPORTED, () -> x.primitive(over));
    refuses(x, "primitive(-1)", INDEX, () -> x.primitive(-1));
    promise = 22;
    int m = x.modulo(a, 5);
    due("ground", x.ground(m), 5);
    due("terms", x.terms(m), 2);
    isTerm(x, m, 0, 3, 2, 0, 0);
    isTerm(x, m, 1, 3, 0, 1, 0);
    due("modulo(a, 2)", x.terms(x.modulo(a, 2)), 0);
    refuses(x, "modulo(a, 0)", ARGUMENT, () -> x.modulo(a, 0));
    refuses(x, "modulo(over, 4)", ARGUMENT, () -> x.modulo(over, 4));
    refuses(x, "modulo(over, 5)", UNSUPPORTED, () -> x.modulo(over, 5));
    refuses(x, "modulo(99, 4)", INDEX, () -> x.modulo(99, 4));
    int odd = make(x, 0, 10, 1, 1, 1, 15, 0, 0, 1);
    fill(x);
    refuses(x, "modulo as the 61st", STATE, () -> x.modulo(odd, 7));
    promise = 21;
    refuses(x, "primitive as the 61st", STATE, () -> x.primitive(odd));
  }

  private static void quotients() {
    Polyforge x = new Polyforge();
    int a = line(x, 7, 3, 0, 2, 5);
    int b = line(x, 7, 2, 1);
    int zero = x.constant(7, 0);
    promise = 23;
    int q = x.quotient(a, b);
    promise = 24;
    int r = x.remainder(a, b);
    due("degree of the remainder", x.degree(r) < x.degree(b), true);
    promise = 23;
    due("quotient times divisor and remainder", x.add(x.multiply(q, b), r), a);
    due("degree of the quotient", x.degree(q), 2);
    due("quotient(b, a)", x.quotient(b, a), zero);
    due("quotient(a, a)", x.quotient(a, a), x.constant(7, 1));
    due("quotient(a, 3)", x.multiply(x.quotient(a, x.constant(7, 3)), x.constant(7, 3)), a);
    promise = 24;
    due("remainder(b, a)", x.remainder(b, a), b);
    due("remainder(nothing, a)", x.remainder(zero, a), zero);
    int plane = x.variable(7, 1);
    int whole = x.variable(0, 0);
    int other = x.variable(5, 0);
    int nothing = x.constant(0, 0);
    promise = 23;
    refuses(x, "quotient by nothing", ARITHMETIC, () -> x.quotient(a, zero));
    refuses(x, "quotient of no line", UNSUPPORTED, () -> x.quotient(plane, zero));
    refuses(x, "quotient of whole numbers", UNSUPPORTED, () -> x.quotient(whole, nothing));
    refuses(x, "quotient over two grounds", UNSUPPORTED, () -> x.quotient(a, other));
    refuses(x, "quotient(plane, 99)", INDEX, () -> x.quotient(plane, 99));
    promise = 24;
    refuses(x, "remainder by nothing", ARITHMETIC, () -> x.remainder(a, zero));
    refuses(x, "remainder by no line", UNSUPPORTED, () -> x.remainder(a, plane));
    refuses(x, "remainder over two grounds", UNSUPPORTED, () -> x.remainder(other, a));
    refuses(x, "remainder(99, plane)", INDEX, () -> x.remainder(99, plane));
    int c = line(x, 7, 1, 0, 0, 1, 6);
    int d = line(x, 7, 3, 5, 4);
    fill(x);
    refuses(x, "remainder as the 61st", STATE, () -> x.remainder(c, d));
    refuses(x, "remainder by nothing, full", ARITHMETIC, () -> x.remainder(c, zero));
    promise = 23;
    refuses(x, "quotient as the 61st", STATE, () -> x.quotient(c, d));
  }

  private static void divisors() {
    promise = 25;
    Polyforge x = new Polyforge();
    int a = line(x, 5, 1, 1);
    int b = line(x, 5, 2, 1);
    int c = line(x, 5, 3, 0, 1);
    int ab = x.multiply(a, b);
    int ac = x.multiply(a, c);
    due("divisor(ab, ac)", x.divisor(ab, ac), a);
    due("divisor(a, b)", x.divisor(a, b), x.constant(5, 1));
    due("lead of divisor(b, b)", x.coefficientAt(x.divisor(b, b), 0), 1);
    int zero = x.constant(5, 0);
    due("divisor(nothing, nothing)", x.divisor(zero, zero), zero);
    due("divisor(b, nothing)", x.divisor(b, zero), x.divisor(b, b));
    due("divisor(nothing, b)", x.divisor(zero, b), x.divisor(b, b));
    int plane = x.variable(5, 2);
    int other = x.variable(7, 0);
    refuses(x, "divisor(plane, a)", UNSUPPORTED, () -> x.divisor(plane, a));
    refuses(x, "divisor(a, other)", UNSUPPORTED, () -> x.divisor(a, other));
    refuses(x, "divisor(plane, 99)", INDEX, () -> x.divisor(plane, 99));
    fill(x);
    due("divisor that is known", x.divisor(ab, ac), a);
    refuses(x, "divisor as the 61st", STATE, () -> x.divisor(c, c));
  }

  private static void factors() {
    Polyforge x = new Polyforge();
    // 4 (x + 2)^2 x (x^2 + 3) over 7
    int a = x.power(line(x, 7, 1, 2), 2);
    int b = x.multiply(a, x.variable(7, 0));
    int c = x.multiply(b, line(x, 7, 1, 0, 4));
    int d = x.multiply(c, x.constant(7, 4));
    promise = 26;
    due("factors(d)", x.factors(d), 3);
    due("factors(x)", x.factors(x.variable(7, 0)), 1);
    promise = 27;
    due("factorAt(d, 0)", x.factorAt(d, 0), x.variable(7, 0));
    due("factorAt(d, 1)", x.factorAt(d, 1), line(x, 7, 1, 2));
    due("factorAt(d, 2)", x.factorAt(d, 2), line(x, 7, 1, 0, 4));
    promise = 28;
    due("multiplicity(d, 0)", x.multiplicity(d, 0), 1);
    due("multiplicity(d, 1)", x.multiplicity(d, 1), 2);
    due("multiplicity(d, 2)", x.multiplicity(d, 2), 1);
    int constant = x.constant(7, 3);
    int zero = x.constant(7, 0);
    int long7 = make(x, 7, 1, 7, 0, 0);
    int plane = make(x, 7, 1, 1, 1, 0);
    int whole = x.variable(0, 0);
    for (int p : new int[] {constant, zero, long7, plane, whole}) {
      promise = 26;
      refuses(x, "factors(" + p + ")", UNSUPPORTED, () -> x.factors(p));
      promise = 27;
      refuses(x, "factorAt(" + p + ", -1)", UNSUPPORTED, () -> x.factorAt(p, -1));
      promise = 28;
      refuses(x, "multiplicity(" + p + ", 9)", UNSUPPORTED, () -> x.multiplicity(p, 9));
    }
    promise = 26;
    refuses(x, "factors(99)", INDEX, () -> x.factors(99));
    promise = 27;
    refuses(x, "factorAt(d, 3)", MISSING, () -> x.factorAt(d, 3));
    refuses(x, "factorAt(d, -1)", MISSING, () -> x.factorAt(d, -1));
    refuses(x, "factorAt(99, 0)", INDEX, () -> x.factorAt(99, 0));
    promise = 28;
    refuses(x, "multiplicity(d, 3)", MISSING, () -> x.multiplicity(d, 3));
    refuses(x, "multiplicity(d, -1)", MISSING, () -> x.multiplicity(d, -1));
    refuses(x, "multiplicity(-1, 0)", INDEX, () -> x.multiplicity(-1, 0));
    Polyforge y = new Polyforge();
    promise = 27;
    // x^6 + 1 over 13 is the product of x + 2, 5, 6, 7, 8 and 11
    int six = make(y, 13, 1, 6, 0, 0, 1, 0, 0, 0);
    int[] constants = {2, 5, 6, 7, 8, 11};
    due("factors(x^6 + 1)", y.factors(six), 6);
    for (int i = 0; i < 6; i++) {
      due("factorAt(x^6 + 1, " + i + ")", y.coefficientAt(y.factorAt(six, i), 1), constants[i]);
    }
    // x^6 + x + 1 over 2 stays whole, and so does one more of degree 6 over 13
    int whole6 = make(y, 2, 1, 6, 0, 0, 1, 1, 0, 0, 1, 0, 0, 0);
    due("factorAt of an irreducible one", y.factorAt(whole6, 0), whole6);
    int square = y.power(make(y, 2, 1, 3, 0, 0, 1, 1, 0, 0, 1, 0, 0, 0), 2);
    promise = 28;
    due("multiplicity of a cubic factor", y.multiplicity(square, 0), 2);
    promise = 27;
    int twice = make(y, 3, 2, 1, 0, 0, 1, 0, 0, 0);
    fill(y);
    refuses(y, "factorAt as the 61st", STATE, () -> y.factorAt(twice, 0));
    refuses(y, "factorAt(twice, 1) of a full one", MISSING, () -> y.factorAt(twice, 1));
  }

  private static void irreducibles() {
    promise = 29;
    // over each prime, of all monic lines of a degree just these are irreducible
    int[][] counts = {{2, 1, 2, 3, 6, 9}, {3, 3, 8, 18}, {5, 10, 40}, {7, 21}, {11, 55}, {13, 78}};
    for (int i = 0; i < PRIMES.length; i++) {
      for (int degree = 1; degree <= counts[i].length; degree++) {
        due("irreducible ones of degree " + degree + " over " + PRIMES[i], irreducibleLines(PRIMES[i], degree),
            counts[i][degree - 1]);
      }
    }
    Polyforge x = new Polyforge();
    due("isIrreducible(3 x + 1)", x.isIrreducible(line(x, 5, 3, 1)), true);
    due("isIrreducible((x + 1)^2)", x.isIrreducible(x.power(line(x, 5, 1, 1), 2)), false);
    int constant = x.constant(5, 1);
    int plane = x.variable(5, 1);
    int whole = x.variable(0, 0);
    int seven = make(x, 5, 1, 7, 0, 0);
    for (int p : new int[] {constant, plane, whole, seven}) {
      refuses(x, "isIrreducible(" + p + ")", UNSUPPORTED, () -> x.isIrreducible(p));
    }
    refuses(x, "isIrreducible(99)", INDEX, () -> x.isIrreducible(99));
  }

  private static int irreducibleLines(int prime, int degree) {
    int many = 1;
    for (int i = 0; i < degree; i++) {
      many *= prime;
    }
    int found = 0;
    for (int n = 0; n < many; n++) {
      Polyforge x = new Polyforge();
      int[] c = new int[degree + 1];
      c[0] = 1;
      for (int i = 1, left = n; i <= degree; i++, left /= prime) {
        c[i] = left % prime;
      }
      int p = line(x, prime, c);
      boolean irreducible = x.isIrreducible(p);
      found += irreducible ? 1 : 0;
      if (irreducible != (x.factors(p) == 1 && x.multiplicity(p, 0) == 1)) {
        due("isIrreducible against the factors", irreducible, !irreducible);
      }
    }
    return found;
  }

  private static void roots() {
    promise = 30;
    Polyforge x = new Polyforge();
    due("roots(x^2 - 1)", x.roots(line(x, 7, 1, 0, 6)), 2);
    due("roots((x + 1)^2)", x.roots(line(x, 7, 1, 2, 1)), 1);
    due("roots(x^2 + 1)", x.roots(line(x, 7, 1, 0, 1)), 0);
    due("roots(x^3 - x)", x.roots(line(x, 3, 1, 0, 2, 0)), 3);
    due("roots of a constant", x.roots(x.constant(3, 2)), 0);
    due("roots of x^30", x.roots(x.power(make(x, 2, 1, 5, 0, 0), 6)), 1);
    int zero = x.constant(3, 0);
    int plane = x.variable(3, 1);
    int whole = x.constant(0, 0);
    refuses(x, "roots of nothing", ARITHMETIC, () -> x.roots(zero));
    refuses(x, "roots of no line", UNSUPPORTED, () -> x.roots(plane));
    refuses(x, "roots of whole numbers", UNSUPPORTED, () -> x.roots(whole));
    refuses(x, "roots(99)", INDEX, () -> x.roots(99));
  }

  private static void resultants() {
    Polyforge x = new Polyforge();
    // Res(2 x + 3, 4 x + 5) = 2 * 5 - 3 * 4
    int a = line(x, 11, 2, 3);
    int b = line(x, 11, 4, 5);
    int c = line(x, 11, 1, 0, 3, 1);
    int five = x.constant(11, 5);
    int two = x.constant(11, 2);
    int zero = x.constant(11, 0);
    int plane = x.variable(11, 1);
    int other = x.variable(13, 0);
    isResultant(x, a, b, 11 - 2);
    isResultant(x, b, a, 2);
    isResultant(x, a, a, 0);
    isResultant(x, five, two, 1);
    isResultant(x, five, c, 125 % 11);
    isResultant(x, c, five, 125 % 11);
    // -8 times the value of c at the root of a, for the order (a, c)
    int root = 4;
    int value = (root * root * root + 3 * root + 1) % 11;
    isResultant(x, a, c, 8 * value % 11);
    isResultant(x, c, a, Math.floorMod(-8 * value, 11));
    isResultant(x, x.multiply(a, c), x.multiply(b, a), 0);
    int far = x.power(x.add(x.power(x.variable(11, 0), 5), two), 6);
    int far2 = x.power(x.add(x.power(x.variable(11, 0), 5), five), 6);
    due("both of lines of the degree 30", x.resultant(far, far2), x.resultantByDeterminant(far, far2));
    promise = 31;
    refuses(x, "resultant(nothing, a)", ARITHMETIC, () -> x.resultant(zero, a));
    refuses(x, "resultant(a, nothing)", ARITHMETIC, () -> x.resultant(a, zero));
    refuses(x, "resultant(plane, nothing)", UNSUPPORTED, () -> x.resultant(plane, zero));
    refuses(x, "resultant(other, nothing)", UNSUPPORTED, () -> x.resultant(other, zero));
    refuses(x, "resultant(plane, 99)", INDEX, () -> x.resultant(plane, 99));
    promise = 32;
    refuses(x, "resultantByDeterminant(nothing, a)", ARITHMETIC, () -> x.resultantByDeterminant(zero, a));
    refuses(x, "resultantByDeterminant(a, nothing)", ARITHMETIC, () -> x.resultantByDeterminant(a, zero));
    refuses(x, "resultantByDeterminant(nothing, plane)", UNSUPPORTED, () -> x.resultantByDeterminant(zero, plane));
    refuses(x, "resultantByDeterminant(other, nothing)", UNSUPPORTED, () -> x.resultantByDeterminant(other, zero));
    refuses(x, "resultantByDeterminant(-1, plane)", INDEX, () -> x.resultantByDeterminant(-1, plane));
  }

  private static void isResultant(Polyforge x, int p, int q, int want) {
    promise = 31;
    due("resultant(" + p + ", " + q + ")", x.resultant(p, q), want);
    promise = 32;
    due("resultantByDeterminant(" + p + ", " + q + ")", x.resultantByDeterminant(p, q), want);
  }

  private static void series() {
    promise = 33;
    Polyforge x = new Polyforge();
    int one = x.constant(13, 1);
    // 1 / (1 - x - x^2) has the Fibonacci numbers
    int below = line(x, 13, 12, 12, 1);
    int before = 0;
    int now = 1;
    for (int i = 0; i <= 30; i++) {
      due("series(1, 1 - x - x^2, " + i + ")", x.series(one, below, i), now);
      int next = (before + now) % 13;
      before = now;
      now = next;
    }
    int two = x.constant(13, 2);
    due("series(x, 2, 1)", x.series(x.variable(13, 0), two, 1), 7);
    due("series(x, 2, 2)", x.series(x.variable(13, 0), two, 2), 0);
    int zero = x.constant(13, 0);
    due("series(nothing, 2, 30)", x.series(zero, two, 30), 0);
    int plane = x.variable(13, 1);
    int other = x.constant(11, 1);
    int v = x.variable(13, 0);
    refuses(x, "series(1, x, 0)", ARITHMETIC, () -> x.series(one, v, 0));
    refuses(x, "series(1, nothing, 0)", ARITHMETIC, () -> x.series(one, zero, 0));
    refuses(x, "series(1, x, 31)", ARGUMENT, () -> x.series(one, v, 31));
    refuses(x, "series(1, x, -1)", ARGUMENT, () -> x.series(one, v, -1));
    refuses(x, "series(1, plane, 31)", UNSUPPORTED, () -> x.series(one, plane, 31));
    refuses(x, "series(1, other, 31)", UNSUPPORTED, () -> x.series(one, other, 31));
    refuses(x, "series(plane, 99, 31)", INDEX, () -> x.series(plane, 99, 31));
  }

  private static void limits() {
    promise = 34;
    Polyforge x = new Polyforge();
    int a = line(x, 7, 1, 4);
    int aa = x.power(a, 2);
    int aaa = x.power(a, 3);
    int b = line(x, 7, 2, 3);
    int ab = x.multiply(a, b);
    int zero = x.constant(7, 0);
    due("limit(ab, a, 3)", x.limit(ab, a, 3), 2);
    due("limit(a, ab, 3)", x.limit(a, ab, 3), 4);
    due("limit(aaa, aa, 3)", x.limit(aaa, aa, 3), 0);
    due("limit(aa, aa, 3)", x.limit(aa, aa, 3), 1);
    due("limit(a, b, 0)", x.limit(a, b, 0), 6);
    due("limit(nothing, aa, 3)", x.limit(zero, aa, 3), 0);
    refuses(x, "limit(aa, aaa, 3)", MISSING, () -> x.limit(aa, aaa, 3));
    refuses(x, "limit(b, a, 3)", MISSING, () -> x.limit(b, a, 3));
    refuses(x, "limit(a, nothing, 3)", ARITHMETIC, () -> x.limit(a, zero, 3));
    refuses(x, "limit(a, nothing, 7)", ARGUMENT, () -> x.limit(a, zero, 7));
    refuses(x, "limit(a, nothing, -1)", ARGUMENT, () -> x.limit(a, zero, -1));
    int plane = x.variable(7, 2);
    int other = x.variable(5, 0);
    refuses(x, "limit(plane, a, 7)", UNSUPPORTED, () -> x.limit(plane, a, 7));
    refuses(x, "limit(a, other, 7)", UNSUPPORTED, () -> x.limit(a, other, 7));
    refuses(x, "limit(99, plane, 7)", INDEX, () -> x.limit(99, plane, 7));
  }

  private static void partials() {
    promise = 35;
    Polyforge x = new Polyforge();
    // 1 / (x (x + 1)) = 1 / x - 1 / (x + 1)
    int one = x.constant(5, 1);
    int v = x.variable(5, 0);
    int below = x.multiply(v, line(x, 5, 1, 1));
    due("partial(1, x (x + 1), 0)", x.partial(one, below, 0), one);
    due("partial(1, x (x + 1), 1)", x.partial(one, below, 1), x.constant(5, 4));
    due("partial of a multiple", x.partial(below, below, 0), x.constant(5, 0));
    // with another leading coefficient, a multiplicity, and a quotient that is left out
    int f = line(x, 7, 1, 3);
    int g = line(x, 7, 1, 0, 1);
    int ff = x.power(f, 2);
    int all = x.multiply(x.multiply(ff, g), x.constant(7, 3));
    int top = line(x, 7, 2, 1, 0, 5, 4, 6);
    int a = x.partial(top, all, 0);
    int b = x.partial(top, all, 1);
    int three = x.constant(7, 3);
    due("degree below that of the power", x.degree(a) < 2, true);
    due("degree below that of the factor", x.degree(b) < 2, true);
    int sum = x.add(x.multiply(x.multiply(a, g), three), x.multiply(x.multiply(b, ff), three));
    due("the sum of the fractions", sum, x.remainder(top, all));
    int constant = x.constant(7, 1);
    int plane = x.variable(7, 1);
    refuses(x, "partial(top, all, 2)", MISSING, () -> x.partial(top, all, 2));
    refuses(x, "partial(top, all, -1)", MISSING, () -> x.partial(top, all, -1));
    refuses(x, "partial(top, 1, 2)", UNSUPPORTED, () -> x.partial(top, constant, 2));
    refuses(x, "partial(plane, all, 2)", UNSUPPORTED, () -> x.partial(plane, all, 2));
    refuses(x, "partial(1 over 5, all, 2)", UNSUPPORTED, () -> x.partial(one, all, 2));
    refuses(x, "partial(plane, 99, 2)", INDEX, () -> x.partial(plane, 99, 2));
    Polyforge y = new Polyforge();
    int y1 = y.constant(5, 1);
    int yb = y.multiply(y.variable(5, 0), line(y, 5, 1, 1));
    fill(y);
    due("partial that is known", y.partial(y1, yb, 0), y1);
    refuses(y, "partial as the 61st", STATE, () -> y.partial(y1, yb, 1));
  }

  private static void ideals() {
    promise = 36;
    Polyforge x = new Polyforge();
    for (int i = 0; i < 5; i++) {
      int prime = PRIMES[i];
      refuses(x, "addIdeal(0)", ARGUMENT, () -> x.addIdeal(0));
      due("addIdeal(" + prime + ")", x.addIdeal(prime), i);
    }
    refuses(x, "addIdeal(13) as the sixth", STATE, () -> x.addIdeal(13));
    refuses(x, "addIdeal(9) as the sixth", ARGUMENT, () -> x.addIdeal(9));
    promise = 37;
    int a = make(x, 5, 1, 3, 0, 0, 2, 1, 1, 1, 3, 0, 0, 2, 4, 0, 0, 0);
    int longer = x.add(a, x.variable(5, 1));
    int higher = make(x, 5, 1, 2, 2, 0);
    int other = x.constant(7, 1);
    int zero = x.constant(5, 0);
    refuses(x, "a polynomial of five terms", UNSUPPORTED, () -> x.addGenerator(2, longer));
    refuses(x, "a polynomial of the degree 4", UNSUPPORTED, () -> x.addGenerator(2, higher));
    refuses(x, "a polynomial of another ground", UNSUPPORTED, () -> x.addGenerator(2, other));
    due("addGenerator", x.addGenerator(2, a), 1);
    due("addGenerator of the same", x.addGenerator(2, a), 2);
    due("addGenerator of nothing", x.addGenerator(2, zero), 3);
    refuses(x, "a fourth generator", STATE, () -> x.addGenerator(2, a));
    refuses(x, "a fourth generator of the degree 4", UNSUPPORTED, () -> x.addGenerator(2, higher));
    refuses(x, "addGenerator(5, 99)", MISSING, () -> x.addGenerator(5, 99));
    refuses(x, "addGenerator(-1, a)", MISSING, () -> x.addGenerator(-1, a));
    refuses(x, "addGenerator(2, 99)", INDEX, () -> x.addGenerator(2, 99));
    promise = 38;
    due("basis(2)", x.basis(2), 1);
    due("basis(0)", x.basis(0), 0);
  }

  private static void bases() {
    Polyforge x = new Polyforge();
    x.addIdeal(7);
    // x^2 + y + z - 1, x + y^2 + z - 1, x + y + z^2 - 1, the common example for the order l
    x.addGenerator(0, make(x, 7, 1, 2, 0, 0, 1, 0, 1, 0, 1, 0, 0, 1, 6, 0, 0, 0));
    x.addGenerator(0, make(x, 7, 1, 1, 0, 0, 1, 0, 2, 0, 1, 0, 0, 1, 6, 0, 0, 0));
    x.addGenerator(0, make(x, 7, 1, 1, 0, 0, 1, 0, 1, 0, 1, 0, 0, 2, 6, 0, 0, 0));
    promise = 38;
    due("basis in l", x.basis(0), 4);
    // z^6 - 4 z^4 + 4 z^3 - z^2
    int[][] last = {{1, 6}, {3, 4}, {4, 3}, {6, 2}};
    promise = 39;
    due("basisTerms", x.basisTerms(0, 0), 4);
    for (int t = 0; t < 4; t++) {
      promise = 40;
      due("basisCoefficient(0, 0, " + t + ")", x.basisCoefficient(0, 0, t), last[t][0]);
      promise = 41;
      due("basisExponent(0, 0, " + t + ", 2)", x.basisExponent(0, 0, t, 2), last[t][1]);
      due("basisExponent(0, 0, " + t + ", 0)", x.basisExponent(0, 0, t, 0), 0);
    }
    int[][] leads = {{0, 0, 6}, {0, 1, 2}, {0, 2, 0}, {1, 0, 0}};
    areLeads(x, 0, leads);
    x.setOrder('d');
    areLeads(x, 0, new int[][] {{0, 0, 2}, {0, 2, 0}, {2, 0, 0}});
    x.setOrder('r');
    areLeads(x, 0, new int[][] {{0, 0, 2}, {0, 2, 0}, {2, 0, 0}});
    promise = 40;
    due("basisCoefficient in r", x.basisCoefficient(0, 0, 3), 6);
    x.setOrder('l');
    promise = 38;
    refuses(x, "basis(1)", MISSING, () -> x.basis(1));
    promise = 39;
    refuses(x, "basisTerms(0, 4)", MISSING, () -> x.basisTerms(0, 4));
    refuses(x, "basisTerms(0, -1)", MISSING, () -> x.basisTerms(0, -1));
    refuses(x, "basisTerms(-1, 0)", MISSING, () -> x.basisTerms(-1, 0));
    promise = 40;
    refuses(x, "basisCoefficient(0, 0, 4)", INDEX, () -> x.basisCoefficient(0, 0, 4));
    refuses(x, "basisCoefficient(0, 0, -1)", INDEX, () -> x.basisCoefficient(0, 0, -1));
    refuses(x, "basisCoefficient(0, 4, 4)", MISSING, () -> x.basisCoefficient(0, 4, 4));
    refuses(x, "basisCoefficient(1, 0, 0)", MISSING, () -> x.basisCoefficient(1, 0, 0));
    promise = 41;
    refuses(x, "basisExponent(0, 0, 4, 0)", INDEX, () -> x.basisExponent(0, 0, 4, 0));
    refuses(x, "basisExponent(0, 0, 4, 3)", ARGUMENT, () -> x.basisExponent(0, 0, 4, 3));
    refuses(x, "basisExponent(0, 4, 4, 3)", MISSING, () -> x.basisExponent(0, 4, 4, 3));
    refuses(x, "basisExponent(9, 0, 0, 0)", MISSING, () -> x.basisExponent(9, 0, 0, 0));
    promise = 38;
    Polyforge y = new Polyforge();
    y.addIdeal(3);
    y.addGenerator(0, y.constant(3, 0));
    due("basis without terms", y.basis(0), 0);
    y.addGenerator(0, y.variable(3, 1));
    due("basis with a variable", y.basis(0), 1);
    y.addGenerator(0, y.constant(3, 2));
    due("basis of all", y.basis(0), 1);
    promise = 39;
    due("basisTerms of all", y.basisTerms(0, 0), 1);
    promise = 40;
    due("basisCoefficient of all", y.basisCoefficient(0, 0, 0), 1);
    farBasis();
  }

  /** In the order l, the exponents of a basis are far above those of its generators. */
  private static void farBasis() {
    promise = 41;
    Polyforge x = new Polyforge();
    x.addIdeal(2);
    x.addGenerator(0, make(x, 2, 1, 3, 0, 0, 1, 0, 1, 0, 1, 0, 0, 0));
    x.addGenerator(0, make(x, 2, 1, 0, 3, 0, 1, 0, 0, 1));
    x.addGenerator(0, make(x, 2, 1, 0, 0, 3, 1, 1, 0, 0, 1, 0, 0, 0));
    due("the exponent of the last variable alone", x.basisExponent(0, 0, 0, 2), 27);
    promise = 44;
    due("size", x.size(0), 27);
  }

  private static void areLeads(Polyforge x, int ideal, int[][] leads) {
    promise = 38;
    due("basis", x.basis(ideal), leads.length);
    promise = 41;
    for (int i = 0; i < leads.length; i++) {
      for (int v = 0; v < 3; v++) {
        due("basisExponent(" + ideal + ", " + i + ", 0, " + v + ")", x.basisExponent(ideal, i, 0, v), leads[i][v]);
      }
    }
  }

  private static void normalForms() {
    Polyforge x = new Polyforge();
    x.addIdeal(5);
    int y = x.variable(5, 1);
    int v = x.variable(5, 0);
    int yyy = x.power(y, 3);
    // x = y^3 in the order l; in the orders d and r, y^3 = x
    x.addGenerator(0, x.subtract(v, yyy));
    promise = 42;
    due("normalForm(x)", x.normalForm(0, v), yyy);
    int v10 = make(x, 5, 1, 10, 0, 0);
    due("normalForm(x^10)", x.degreeIn(x.normalForm(0, v10), 1), 30);
    int v11 = x.multiply(v10, v);
    int cancels = x.subtract(v11, x.multiply(v10, yyy));
    refuses(x, "normalForm(x^11)", ARITHMETIC, () -> x.normalForm(0, v11));
    due("normalForm(x^11 - x^10 y^3)", x.normalForm(0, cancels), x.constant(5, 0));
    promise = 43;
    due("isIn(x^11 - x^10 y^3)", x.isIn(0, cancels), true);
    due("isIn(x^11)", x.isIn(0, v11), false);
    due("isIn(nothing)", x.isIn(0, x.constant(5, 0)), true);
    promise = 42;
    x.setOrder('d');
    due("normalForm(x^11) in d", x.normalForm(0, v11), v11);
    due("normalForm(y^3) in d", x.normalForm(0, yyy), v);
    x.setOrder('l');
    x.addIdeal(5);
    due("normalForm by no generators", x.normalForm(1, v11), v11);
    promise = 43;
    due("isIn of no generators", x.isIn(1, v11), false);
    due("isIn(nothing) of no generators", x.isIn(1, x.constant(5, 0)), true);
    int other = x.variable(7, 0);
    refuses(x, "isIn(0, other)", UNSUPPORTED, () -> x.isIn(0, other));
    refuses(x, "isIn(2, 99)", MISSING, () -> x.isIn(2, 99));
    refuses(x, "isIn(0, 99)", INDEX, () -> x.isIn(0, 99));
    promise = 42;
    refuses(x, "normalForm(0, other)", UNSUPPORTED, () -> x.normalForm(0, other));
    refuses(x, "normalForm(2, 99)", MISSING, () -> x.normalForm(2, 99));
    refuses(x, "normalForm(0, -1)", INDEX, () -> x.normalForm(0, -1));
    int square = x.power(v, 2);
    fill(x);
    due("normalForm that is known", x.normalForm(0, v), yyy);
    refuses(x, "normalForm as the 61st", STATE, () -> x.normalForm(0, square));
    refuses(x, "normalForm out of range as the 61st", ARITHMETIC, () -> x.normalForm(0, v11));
  }

  private static void sizes() {
    promise = 44;
    Polyforge x = new Polyforge();
    x.addIdeal(3);
    refuses(x, "size without generators", MISSING, () -> x.size(0));
    x.addGenerator(0, make(x, 3, 1, 2, 0, 0, 1, 0, 1, 0));
    refuses(x, "size with one generator", MISSING, () -> x.size(0));
    x.addGenerator(0, make(x, 3, 1, 0, 2, 0, 1, 0, 0, 0));
    refuses(x, "size with two generators", MISSING, () -> x.size(0));
    x.addGenerator(0, make(x, 3, 1, 0, 0, 3, 1, 0, 1, 0));
    for (char order : new char[] {'l', 'd', 'r'}) {
      x.setOrder(order);
      due("size in " + order, x.size(0), 12);
    }
    refuses(x, "size(1)", MISSING, () -> x.size(1));
    refuses(x, "size(-1)", MISSING, () -> x.size(-1));
    x.addIdeal(11);
    x.addGenerator(1, x.constant(11, 4));
    due("size of all", x.size(1), 0);
  }

  private static void rules() {
    promise = 45;
    Polyforge x = new Polyforge();
    int a = x.variable(5, 0);
    int whole = x.variable(0, 0);
    refuses(x, "addRule of the degree 0", ARGUMENT, () -> x.addRule(0, 0, 0, a, -1, ' '));
    refuses(x, "addRule of the degree 7", ARGUMENT, () -> x.addRule(7, 0, 0, a, -1, ' '));
    refuses(x, "addRule of the degree 7", ARGUMENT, () -> x.addRule(3, 3, 1, a, -1, ' '));
    refuses(x, "addRule with an exponent below 0", ARGUMENT, () -> x.addRule(4, -1, 0, a, -1, ' '));
    refuses(x, "addRule with a sum that wraps around", ARGUMENT,
        () -> x.addRule(Integer.MAX_VALUE, Integer.MAX_VALUE, 4, a, -1, ' '));
    refuses(x, "addRule with the variable 3", ARGUMENT, () -> x.addRule(1, 0, 0, a, 3, '+'));
    refuses(x, "addRule with the variable -2", ARGUMENT, () -> x.addRule(1, 0, 0, a, -2, '+'));
    refuses(x, "addRule with the sign ?", ARGUMENT, () -> x.addRule(1, 0, 0, a, 0, '?'));
    refuses(x, "addRule over whole numbers", UNSUPPORTED, () -> x.addRule(1, 0, 0, whole, 0, '+'));
    refuses(x, "addRule over whole numbers of the degree 0", ARGUMENT, () -> x.addRule(0, 0, 0, whole, 0, '+'));
    refuses(x, "addRule(0, 0, 0, 99, 9, '?')", INDEX, () -> x.addRule(0, 0, 0, 99, 9, '?'));
    due("addRule", x.addRule(0, 0, 6, a, -1, '?'), 0);
    due("addRule", x.addRule(2, 2, 2, a, 2, '0'), 1);
    for (int i = 2; i < 8; i++) {
      due("addRule", x.addRule(1, 0, 3, x.constant(5, 0), 0, i % 2 == 0 ? '-' : '+'), i);
    }
    refuses(x, "a ninth rule", STATE, () -> x.addRule(1, 0, 0, a, -1, ' '));
    refuses(x, "a ninth rule over whole numbers", UNSUPPORTED, () -> x.addRule(1, 0, 0, whole, -1, ' '));
  }

  private static void frames() {
    Polyforge x = new Polyforge();
    promise = 46;
    due("assume(0, '+')", x.assume(0, '+'), 1);
    refuses(x, "assume(0, '+') again", STATE, () -> x.assume(0, '+'));
    refuses(x, "assume(0, '-')", STATE, () -> x.assume(0, '-'));
    refuses(x, "assume(0, '?')", ARGUMENT, () -> x.assume(0, '?'));
    refuses(x, "assume(3, '+')", ARGUMENT, () -> x.assume(3, '+'));
    refuses(x, "assume(-1, '+')", ARGUMENT, () -> x.assume(-1, '+'));
    promise = 47;
    due("openFrame()", x.openFrame(), 2);
    promise = 46;
    refuses(x, "assume(0, '-') in a new frame", STATE, () -> x.assume(0, '-'));
    due("assume(2, '0')", x.assume(2, '0'), 2);
    promise = 47;
    for (int i = 3; i <= 6; i++) {
      due("openFrame()", x.openFrame(), i);
    }
    refuses(x, "a seventh frame", STATE, () -> x.openFrame());
    promise = 46;
    due("assume(1, '-')", x.assume(1, '-'), 3);
    promise = 49;
    due("sign(0)", x.sign(0), '+');
    due("sign(1)", x.sign(1), '-');
    due("sign(2)", x.sign(2), '0');
    refuses(x, "sign(3)", ARGUMENT, () -> x.sign(3));
    refuses(x, "sign(-1)", ARGUMENT, () -> x.sign(-1));
    promise = 48;
    due("closeFrame()", x.closeFrame(), 1);
    due("sign(1) is known no more", x.sign(1), '?');
    due("closeFrame()", x.closeFrame(), 0);
    due("closeFrame()", x.closeFrame(), 0);
    due("closeFrame()", x.closeFrame(), 0);
    due("sign(2)", x.sign(2), '0');
    promise = 46;
    due("assume(1, '+')", x.assume(1, '+'), 3);
    promise = 48;
    due("closeFrame() with two signs", x.closeFrame(), 2);
    refuses(x, "closeFrame() of the last one", STATE, () -> x.closeFrame());
    due("sign(0) stays known", x.sign(0), '+');
    due("sign(2)", x.sign(2), '?');
    promise = 47;
    due("openFrame()", x.openFrame(), 2);
  }

  private static void rewriting() {
    Polyforge x = new Polyforge();
    int v = x.variable(3, 0);
    int y = x.variable(3, 1);
    int z = x.variable(3, 2);
    int square = x.power(v, 2);
    int a = x.add(x.multiply(square, y), z);
    promise = 50;
    due("rewrite without rules", x.rewrite(a), a);
    promise = 51;
    due("steps without rules", x.steps(a), 0);
    x.addRule(2, 0, 0, x.add(y, x.constant(3, 1)), -1, '?');
    x.addRule(0, 2, 0, z, 0, '+');
    x.addRule(0, 1, 0, x.constant(3, 2), 0, '-');
    promise = 50;
    // x^2 y + z, y^2 + y + z, and with the second rule z + y + z
    int once = x.rewrite(a);
    due("rewrite(a)", once, x.add(x.add(x.power(y, 2), y), z));
    promise = 51;
    due("steps(a)", x.steps(a), 1);
    x.openFrame();
    x.assume(0, '+');
    due("steps(a) with the second rule", x.steps(a), 2);
    promise = 50;
    due("rewrite(a) with the second rule", x.rewrite(a), x.add(y, x.add(z, z)));
    x.closeFrame();
    x.assume(0, '-');
    // y^2 + y + z: 2 y + y + z = z
    due("rewrite(a) with the third rule", x.rewrite(a), z);
    promise = 51;
    due("steps(a) with the third rule", x.steps(a), 2);
    int other = x.power(x.variable(5, 0), 2);
    due("steps over another prime", x.steps(other), 0);
    due("steps of nothing", x.steps(x.constant(3, 0)), 0);
    int whole = x.variable(0, 0);
    refuses(x, "steps over whole numbers", UNSUPPORTED, () -> x.steps(whole));
    refuses(x, "steps(99)", INDEX, () -> x.steps(99));
    promise = 50;
    refuses(x, "rewrite over whole numbers", UNSUPPORTED, () -> x.rewrite(whole));
    refuses(x, "rewrite(-1)", INDEX, () -> x.rewrite(-1));
    manySteps();
    greatestFirst();
    farSteps();
  }

  /** A rule that lowers an exponent by one takes as many steps as the exponent has: 30 and 20 are 50. */
  private static void manySteps() {
    Polyforge x = new Polyforge();
    int v = x.variable(2, 0);
    int y = x.variable(2, 1);
    int v30 = x.power(x.power(v, 5), 6);
    int y20 = x.power(x.power(y, 4), 5);
    int z = x.variable(2, 2);
    int fifty = x.multiply(v30, y20);
    int more = x.multiply(fifty, y);
    x.addRule(1, 0, 0, z, 0, '+');
    x.addRule(1, 0, 0, x.constant(2, 1), 0, '0');
    x.addRule(0, 1, 0, x.constant(2, 1), -1, ' ');
    x.assume(0, '0');
    promise = 51;
    due("50 steps", x.steps(fifty), 50);
    refuses(x, "a 51st step", ARITHMETIC, () -> x.steps(more));
    promise = 50;
    due("rewrite in 50 steps", x.rewrite(fifty), x.constant(2, 1));
    refuses(x, "rewrite with a 51st step", ARITHMETIC, () -> x.rewrite(more));
    Polyforge w = new Polyforge();
    int loop = w.variable(2, 0);
    w.addRule(1, 0, 0, loop, -1, ' ');
    refuses(w, "rewrite without an end", ARITHMETIC, () -> w.rewrite(loop));
    fill(x);
    refuses(x, "rewrite with a 51st step of a full one", ARITHMETIC, () -> x.rewrite(more));
    int three = x.constant(2, 1);
    due("rewrite that is known", x.rewrite(fifty), three);
    Polyforge u = new Polyforge();
    int t = u.variable(2, 0);
    u.addRule(1, 0, 0, u.variable(2, 1), 0, '+');
    u.addRule(0, 1, 0, u.variable(2, 2), -1, ' ');
    int ty = u.multiply(t, u.variable(2, 1));
    fill(u);
    refuses(u, "rewrite as the 61st", STATE, () -> u.rewrite(ty));
    promise = 51;
    due("steps of what is the 61st", u.steps(ty), 1);
  }

  /** The order decides which term is taken, and so how many steps there are. */
  private static void greatestFirst() {
    promise = 51;
    Polyforge x = new Polyforge();
    // x -> y^2 and y^2 -> 2 x^0 over 3: of x + y^2, in l x comes first and joins y^2; in d y^2 comes first
    int a = x.add(x.variable(3, 0), x.power(x.variable(3, 1), 2));
    x.addRule(1, 0, 0, x.power(x.variable(3, 1), 2), -1, ' ');
    x.addRule(0, 2, 0, x.constant(3, 2), -1, ' ');
    due("steps in l", x.steps(a), 2);
    x.setOrder('d');
    due("steps in d", x.steps(a), 3);
    x.setOrder('r');
    due("steps in r", x.steps(a), 3);
    promise = 50;
    due("rewrite in r", x.rewrite(a), x.constant(3, 1));
    Polyforge y = new Polyforge();
    int b = y.multiply(y.variable(3, 0), y.variable(3, 1));
    y.addRule(0, 1, 0, y.constant(3, 1), 1, '+');
    y.addRule(1, 1, 0, y.constant(3, 2), -1, ' ');
    y.addRule(1, 0, 0, y.constant(3, 0), -1, ' ');
    due("the rule with the lowest number that can be used", y.rewrite(b), y.constant(3, 2));
    y.assume(1, '+');
    due("the rule with the lowest number", y.rewrite(b), y.constant(3, 0));
  }

  private static void farSteps() {
    Polyforge x = new Polyforge();
    int v = x.variable(2, 0);
    int y16 = x.power(x.power(x.variable(2, 1), 4), 4);
    int v2 = x.power(v, 2);
    x.addRule(1, 0, 0, y16, -1, ' ');
    promise = 50;
    due("rewrite(x)", x.rewrite(v), y16);
    refuses(x, "rewrite beyond the exponent 30", ARITHMETIC, () -> x.rewrite(v2));
    promise = 51;
    refuses(x, "steps beyond the exponent 30", ARITHMETIC, () -> x.steps(v2));
    due("steps(x)", x.steps(v), 1);
  }

  private static void shares() {
    Polyforge x = new Polyforge();
    promise = 52;
    refuses(x, "lineShare() of nothing", ARITHMETIC, () -> x.lineShare());
    promise = 53;
    refuses(x, "meanTerms() of nothing", ARITHMETIC, () -> x.meanTerms());
    x.constant(3, 0);
    x.constant(3, 2);
    x.variable(3, 0);
    promise = 52;
    due("lineShare() of lines", x.lineShare(), 1f);
    x.variable(3, 1);
    x.constant(0, 1);
    x.variable(0, 0);
    x.add(x.variable(3, 0), x.constant(3, 2));
    due("lineShare()", x.lineShare(), 4f / 7f);
    promise = 53;
    due("meanTerms()", x.meanTerms(), 7.0 / 7.0);
    x.add(x.variable(3, 1), x.constant(3, 2));
    due("meanTerms()", x.meanTerms(), 9.0 / 8.0);
    promise = 52;
    due("lineShare()", x.lineShare(), 4f / 8f);
  }

  private static void soundness() {
    promise = 54;
    Polyforge x = new Polyforge();
    due("isSound() of nothing", x.isSound(), true);
    for (int prime : PRIMES) {
      x.power(line(x, prime, 1, 1), 3);
      make(x, prime, 1, 2, 0, 0, 1, 0, 0, 0);
    }
    x.addIdeal(13);
    x.addGenerator(0, x.power(x.variable(13, 0), 2));
    due("isSound()", x.isSound(), true);
    int count = x.polynomials();
    due("isSound() keeps nothing", x.polynomials(), count);
    x.setOrder('r');
    due("isSound() in r", x.isSound(), true);
  }
}
