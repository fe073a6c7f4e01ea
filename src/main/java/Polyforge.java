import java.util.Arrays;
import java.util.NoSuchElementException;

/** A computer algebra of polynomials in three variables, of their ideals, and of rules that rewrite them. */
public final class Polyforge {
  private static final int MOST_POLYNOMIALS = 60;
  private static final int MOST_IDEALS = 5;
  private static final int MOST_GENERATORS = 3;
  private static final int MOST_GENERATOR_TERMS = 4;
  private static final int GREATEST_GENERATOR_DEGREE = 3;
  private static final int MOST_RULES = 8;
  private static final int GREATEST_RULE_DEGREE = 6;
  private static final int MOST_FRAMES = 6;
  private static final int MOST_STEPS = 50;
  private static final int VARIABLES = 3;
  private static final int GREATEST_EXPONENT = 30;
  private static final int GREATEST_POWER = 9;
  private static final int GREATEST_VALUE = 99;
  private static final int GREATEST_SERIES_INDEX = 30;
  private static final int GREATEST_FACTORED_DEGREE = 6;
  private static final long GREATEST_COEFFICIENT = 1000000000000L;
  private static final char UNKNOWN = '?';

  private final Polynomial[] kept = new Polynomial[MOST_POLYNOMIALS];
  private int keptCount = 0;
  private char order = 'l';
  private final Ideal[] ideals = new Ideal[MOST_IDEALS];
  private int idealCount = 0;
  private final Rule[] rules = new Rule[MOST_RULES];
  private int ruleCount = 0;
  private final char[] signs = {UNKNOWN, UNKNOWN, UNKNOWN};
  private final int[] signFrames = new int[VARIABLES];
  private int openFrames = 1;
  private final int[] tally = new int[VARIABLES * GREATEST_EXPONENT + 1];
  private final Slate slate = new Slate();
  private final Bench bench = new Bench();
  private final Completion completion = new Completion();
  private final Divider divider = completion.divider;

  public Polyforge() {
  }

  // ---- promises 2 to 15: polynomials, their parts, and the order ----

  public int constant(int ground, int value) throws IllegalArgumentException, IllegalStateException {
    requireGround(ground);
    slate.begin(ground);
    slate.put(value, 0);
    return keep();
  }

  public int variable(int ground, int variable) throws IllegalArgumentException, IllegalStateException {
    requireGround(ground);
    requireVariable(variable);
    slate.begin(ground);
    slate.put(1, Polynomial.unit(variable));
    return keep();
  }

  public int add(int polynomial, int other)
      throws IndexOutOfBoundsException, UnsupportedOperationException, ArithmeticException, IllegalStateException {
    Polynomial first = polynomialAt(polynomial);
    Polynomial second = polynomialAt(other);
    requireSameGround(first, second);
    slate.load(first);
    return keepIf(slate.mix(second, 1, 0));
  }

  public int subtract(int polynomial, int other)
      throws IndexOutOfBoundsException, UnsupportedOperationException, ArithmeticException, IllegalStateException {
    Polynomial first = polynomialAt(polynomial);
    Polynomial second = polynomialAt(other);
    requireSameGround(first, second);
    slate.load(first);
    return keepIf(slate.mix(second, -1, 0));
  }

  public int multiply(int polynomial, int other)
      throws IndexOutOfBoundsException, UnsupportedOperationException, ArithmeticException, IllegalStateException {
    Polynomial first = polynomialAt(polynomial);
    Polynomial second = polynomialAt(other);
    requireSameGround(first, second);
    slate.load(first);
    return keepIf(slate.times(second));
  }

  public int power(int polynomial, int exponent)
      throws IndexOutOfBoundsException, IllegalArgumentException, ArithmeticException, IllegalStateException {
    Polynomial base = polynomialAt(polynomial);
    if (exponent < 0 || exponent > GREATEST_POWER) {
      throw new IllegalArgumentException("no such exponent");
    }
    slate.begin(base.ground);
    slate.put(1, 0);
    boolean inRange = true;
    for (int i = 0; i < exponent && inRange; i++) {
      inRange = slate.times(base);
    }
    return keepIf(inRange);
  }

  public int polynomials() {
    return keptCount;
  }

  public int ground(int polynomial) throws IndexOutOfBoundsException {
    return polynomialAt(polynomial).ground;
  }

  public int terms(int polynomial) throws IndexOutOfBoundsException {
    return polynomialAt(polynomial).length();
  }

  public int degree(int polynomial) throws IndexOutOfBoundsException {
    return polynomialAt(polynomial).total();
  }

  public int degreeIn(int polynomial, int variable) throws IndexOutOfBoundsException, IllegalArgumentException {
    Polynomial asked = polynomialAt(polynomial);
    requireVariable(variable);
    return asked.height(variable);
  }

  public long coefficientAt(int polynomial, int index) throws IndexOutOfBoundsException, NoSuchElementException {
    Polynomial asked = polynomialAt(polynomial);
    return asked.coefficient(placeOfTerm(asked, index));
  }

  public int exponentAt(int polynomial, int index, int variable)
      throws IndexOutOfBoundsException, IllegalArgumentException, NoSuchElementException {
    Polynomial asked = polynomialAt(polynomial);
    requireVariable(variable);
    return asked.exponent(placeOfTerm(asked, index), variable);
  }

  public char setOrder(char order) throws IllegalArgumentException {
    if (order != 'l' && order != 'd' && order != 'r') {
      throw new IllegalArgumentException("no such order");
    }
    char before = this.order;
    this.order = order;
    return before;
  }

  // ---- promises 16 to 22: derivatives, integrals, values, whole numbers ----

  public int derive(int polynomial, int variable)
      throws IndexOutOfBoundsException, IllegalArgumentException, ArithmeticException, IllegalStateException {
    Polynomial asked = polynomialAt(polynomial);
    requireVariable(variable);
    slate.begin(asked.ground);
    boolean inRange = true;
    for (int i = 0; i < asked.length(); i++) {
      int exponent = asked.exponent(i, variable);
      if (exponent > 0) {
        inRange &= slate.put(asked.coefficient(i) * exponent, asked.monomial(i) - Polynomial.unit(variable));
      }
    }
    return keepIf(inRange);
  }

  public int integrate(int polynomial, int variable)
      throws IndexOutOfBoundsException, IllegalArgumentException, UnsupportedOperationException, ArithmeticException,
          IllegalStateException {
    Polynomial asked = polynomialAt(polynomial);
    requireVariable(variable);
    for (int i = 0; i < asked.length(); i++) {
      if (!divides(asked.exponent(i, variable) + 1, asked.coefficient(i), asked.ground)) {
        throw new UnsupportedOperationException("a coefficient cannot be divided");
      }
    }
    if (asked.height(variable) >= GREATEST_EXPONENT) {
      throw new ArithmeticException("an exponent is out of range");
    }
    slate.begin(asked.ground);
    for (int i = 0; i < asked.length(); i++) {
      long divided = divided(asked.coefficient(i), asked.exponent(i, variable) + 1, asked.ground);
      slate.put(divided, asked.monomial(i) + Polynomial.unit(variable));
    }
    return keep();
  }

  public int substitute(int polynomial, int variable, int other)
      throws IndexOutOfBoundsException, IllegalArgumentException, UnsupportedOperationException, ArithmeticException,
          IllegalStateException {
    Polynomial outer = polynomialAt(polynomial);
    Polynomial inner = polynomialAt(other);
    requireVariable(variable);
    requireSameGround(outer, inner);
    requirePrimeGround(outer);
    if (!canSubstitute(outer, variable, inner)) {
      throw new ArithmeticException("an exponent is out of range");
    }
    slate.begin(outer.ground);
    for (int exponent = outer.height(variable); exponent >= 0; exponent--) {
      slate.spreadProduct(inner);
      spreadTermsWith(outer, variable, exponent);
      slate.collect();
    }
    return keep();
  }

  public int value(int polynomial, int first, int second, int third)
      throws IndexOutOfBoundsException, IllegalArgumentException, UnsupportedOperationException {
    Polynomial asked = polynomialAt(polynomial);
    if (!isValue(first) || !isValue(second) || !isValue(third)) {
      throw new IllegalArgumentException("no such value");
    }
    requirePrimeGround(asked);
    long sum = 0;
    for (int i = 0; i < asked.length(); i++) {
      long product = asked.coefficient(i) * powerModulo(first, asked.exponent(i, 0), asked.ground);
      product = mod(product * powerModulo(second, asked.exponent(i, 1), asked.ground), asked.ground);
      sum += product * powerModulo(third, asked.exponent(i, 2), asked.ground);
    }
    return mod(sum, asked.ground);
  }

  public long content(int polynomial) throws IndexOutOfBoundsException, UnsupportedOperationException {
    Polynomial asked = polynomialAt(polynomial);
    requireWholeGround(asked);
    return commonMeasure(asked);
  }

  public int primitive(int polynomial)
      throws IndexOutOfBoundsException, UnsupportedOperationException, IllegalStateException {
    Polynomial asked = polynomialAt(polynomial);
    requireWholeGround(asked);
    long measure = commonMeasure(asked);
    if (asked.coefficient(0) < 0) {
      measure = -measure;
    }
    slate.begin(0);
    for (int i = 0; i < asked.length() && measure != 0; i++) {
      slate.put(asked.coefficient(i) / measure, asked.monomial(i));
    }
    return keep();
  }

  public int modulo(int polynomial, int prime)
      throws IndexOutOfBoundsException, IllegalArgumentException, UnsupportedOperationException,
          IllegalStateException {
    Polynomial asked = polynomialAt(polynomial);
    requirePrime(prime);
    requireWholeGround(asked);
    slate.begin(prime);
    for (int i = 0; i < asked.length(); i++) {
      slate.put(asked.coefficient(i), asked.monomial(i));
    }
    return keep();
  }

  // ---- promises 23 to 35: lines ----

  public int quotient(int polynomial, int other)
      throws IndexOutOfBoundsException, UnsupportedOperationException, ArithmeticException, IllegalStateException {
    Polynomial first = polynomialAt(polynomial);
    Polynomial second = polynomialAt(other);
    requireLines(first, second);
    requireTerms(second);
    return keepLine(bench.quotientOf(first, second), first.ground);
  }

  public int remainder(int polynomial, int other)
      throws IndexOutOfBoundsException, UnsupportedOperationException, ArithmeticException, IllegalStateException {
    Polynomial first = polynomialAt(polynomial);
    Polynomial second = polynomialAt(other);
    requireLines(first, second);
    requireTerms(second);
    return keepLine(bench.remainderOf(first, second), first.ground);
  }

  public int divisor(int polynomial, int other)
      throws IndexOutOfBoundsException, UnsupportedOperationException, IllegalStateException {
    Polynomial first = polynomialAt(polynomial);
    Polynomial second = polynomialAt(other);
    requireLines(first, second);
    return keepLine(bench.divisorOf(first, second), first.ground);
  }

  public int factors(int polynomial) throws IndexOutOfBoundsException, UnsupportedOperationException {
    Polynomial asked = polynomialAt(polynomial);
    requireFactored(asked);
    bench.splitUp(asked);
    return bench.partCount;
  }

  public int factorAt(int polynomial, int index)
      throws IndexOutOfBoundsException, UnsupportedOperationException, NoSuchElementException,
          IllegalStateException {
    Polynomial asked = polynomialAt(polynomial);
    requireFactored(asked);
    bench.splitUp(asked);
    requirePart(index);
    return keepLine(bench.part(index), asked.ground);
  }

  public int multiplicity(int polynomial, int index)
      throws IndexOutOfBoundsException, UnsupportedOperationException, NoSuchElementException {
    Polynomial asked = polynomialAt(polynomial);
    requireFactored(asked);
    bench.splitUp(asked);
    requirePart(index);
    return bench.timesOfPart(index);
  }

  public boolean isIrreducible(int polynomial) throws IndexOutOfBoundsException, UnsupportedOperationException {
    Polynomial asked = polynomialAt(polynomial);
    requireFactored(asked);
    return bench.powersTellIrreducible(asked);
  }

  public int roots(int polynomial)
      throws IndexOutOfBoundsException, UnsupportedOperationException, ArithmeticException {
    Polynomial asked = polynomialAt(polynomial);
    requireLine(asked);
    requireTerms(asked);
    return bench.rootsOf(asked);
  }

  public int resultant(int polynomial, int other)
      throws IndexOutOfBoundsException, UnsupportedOperationException, ArithmeticException {
    Polynomial first = polynomialAt(polynomial);
    Polynomial second = polynomialAt(other);
    requireLines(first, second);
    requireTerms(first);
    requireTerms(second);
    return bench.resultantByRemainders(first, second);
  }

  public int resultantByDeterminant(int polynomial, int other)
      throws IndexOutOfBoundsException, UnsupportedOperationException, ArithmeticException {
    Polynomial first = polynomialAt(polynomial);
    Polynomial second = polynomialAt(other);
    requireLines(first, second);
    requireTerms(first);
    requireTerms(second);
    return bench.determinantOf(first, second);
  }

  public int series(int polynomial, int other, int index)
      throws IndexOutOfBoundsException, UnsupportedOperationException, IllegalArgumentException,
          ArithmeticException {
    Polynomial first = polynomialAt(polynomial);
    Polynomial second = polynomialAt(other);
    requireLines(first, second);
    if (index < 0 || index > GREATEST_SERIES_INDEX) {
      throw new IllegalArgumentException("no such index");
    }
    if (!second.hasConstantTerm()) {
      throw new ArithmeticException("the constant coefficient is 0");
    }
    return bench.seriesNumber(first, second, index);
  }

  public int limit(int polynomial, int other, int place)
      throws IndexOutOfBoundsException, UnsupportedOperationException, IllegalArgumentException,
          ArithmeticException, NoSuchElementException {
    Polynomial first = polynomialAt(polynomial);
    Polynomial second = polynomialAt(other);
    requireLines(first, second);
    if (place < 0 || place >= first.ground) {
      throw new IllegalArgumentException("no such place");
    }
    requireTerms(second);
    int limit = bench.limitAt(first, second, place);
    if (limit < 0) {
      throw new NoSuchElementException("the limit is infinite");
    }
    return limit;
  }

  public int partial(int polynomial, int other, int index)
      throws IndexOutOfBoundsException, UnsupportedOperationException, NoSuchElementException,
          IllegalStateException {
    Polynomial first = polynomialAt(polynomial);
    Polynomial second = polynomialAt(other);
    requireFactored(second);
    requireLines(first, second);
    bench.splitUp(second);
    requirePart(index);
    return keepLine(bench.partialNumerator(first, second, index), first.ground);
  }

  // ---- promises 36 to 44: ideals ----

  public int addIdeal(int prime) throws IllegalArgumentException, IllegalStateException {
    requirePrime(prime);
    if (idealCount >= MOST_IDEALS) {
      throw new IllegalStateException("no more ideals");
    }
    ideals[idealCount] = new Ideal(prime);
    return idealCount++;
  }

  public int addGenerator(int ideal, int polynomial)
      throws NoSuchElementException, IndexOutOfBoundsException, UnsupportedOperationException,
          IllegalStateException {
    Ideal asked = idealAt(ideal);
    Polynomial generator = polynomialAt(polynomial);
    requireGroundOf(asked, generator);
    if (generator.total() > GREATEST_GENERATOR_DEGREE || generator.length() > MOST_GENERATOR_TERMS) {
      throw new UnsupportedOperationException("no generator");
    }
    if (!asked.accept(generator)) {
      throw new IllegalStateException("no more generators");
    }
    return asked.generatorCount;
  }

  public int basis(int ideal) throws NoSuchElementException {
    return basisOf(idealAt(ideal)).count;
  }

  public int basisTerms(int ideal, int index) throws NoSuchElementException {
    Stock basis = basisOf(idealAt(ideal));
    requireElement(basis, index);
    return basis.lengthOf(index);
  }

  public int basisCoefficient(int ideal, int index, int term)
      throws NoSuchElementException, IndexOutOfBoundsException {
    Stock basis = basisOf(idealAt(ideal));
    requireElement(basis, index);
    requireTermOf(basis, index, term);
    return basis.coefficient(index, term);
  }

  public int basisExponent(int ideal, int index, int term, int variable)
      throws NoSuchElementException, IllegalArgumentException, IndexOutOfBoundsException {
    Stock basis = basisOf(idealAt(ideal));
    requireElement(basis, index);
    requireVariable(variable);
    requireTermOf(basis, index, term);
    return Key.exponent(basis.order, basis.key(index, term), variable);
  }

  public int normalForm(int ideal, int polynomial)
      throws NoSuchElementException, IndexOutOfBoundsException, UnsupportedOperationException, ArithmeticException,
          IllegalStateException {
    Ideal asked = idealAt(ideal);
    Polynomial divided = polynomialAt(polynomial);
    requireGroundOf(asked, divided);
    Stock basis = basisOf(asked);
    divider.load(divided, order);
    divider.divide(basis, Divider.ANY_TOTAL);
    slate.begin(divided.ground);
    for (int i = 0; i < divider.restCount; i++) {
      if (!spreadRest(i)) {
        slate.collect();
        throw new ArithmeticException("an exponent is out of range");
      }
    }
    slate.collect();
    return keep();
  }

  public boolean isIn(int ideal, int polynomial)
      throws NoSuchElementException, IndexOutOfBoundsException, UnsupportedOperationException {
    Ideal asked = idealAt(ideal);
    Polynomial divided = polynomialAt(polynomial);
    requireGroundOf(asked, divided);
    Stock basis = basisOf(asked);
    divider.load(divided, order);
    divider.divide(basis, Divider.ANY_TOTAL);
    return divider.restCount == 0;
  }

  public int size(int ideal) throws NoSuchElementException {
    int size = basisOf(idealAt(ideal)).countStandard();
    if (size < 0) {
      throw new NoSuchElementException("the size is without end");
    }
    return size;
  }

  // ---- promises 45 to 51: rules and frames ----

  public int addRule(int first, int second, int third, int polynomial, int variable, char sign)
      throws IndexOutOfBoundsException, IllegalArgumentException, UnsupportedOperationException,
          IllegalStateException {
    Polynomial told = polynomialAt(polynomial);
    if (!isRuleExponent(first) || !isRuleExponent(second) || !isRuleExponent(third)
        || !isRuleDegree(first + second + third)) {
      throw new IllegalArgumentException("no such monomial");
    }
    if (variable != -1) {
      requireVariable(variable);
      requireSign(sign);
    }
    requirePrimeGround(told);
    if (ruleCount >= MOST_RULES) {
      throw new IllegalStateException("no more rules");
    }
    rules[ruleCount] = new Rule(Polynomial.monomialWith(first, second, third), told, variable, sign);
    return ruleCount++;
  }

  public int assume(int variable, char sign) throws IllegalArgumentException, IllegalStateException {
    requireVariable(variable);
    requireSign(sign);
    if (signOf(variable) != UNKNOWN) {
      throw new IllegalStateException("a sign is known");
    }
    int known = 0;
    for (int i = 0; i < VARIABLES; i++) {
      if (i == variable) {
        signs[i] = sign;
        signFrames[i] = openFrames;
      }
      known += signOf(i) != UNKNOWN ? 1 : 0;
    }
    return known;
  }

  public int openFrame() throws IllegalStateException {
    if (openFrames >= MOST_FRAMES) {
      throw new IllegalStateException("no more frames");
    }
    openFrames++;
    return openFrames;
  }

  public int closeFrame() throws IllegalStateException {
    if (openFrames <= 1) {
      throw new IllegalStateException("one frame alone is open");
    }
    int forgotten = 0;
    for (int i = 0; i < VARIABLES; i++) {
      if (signs[i] != UNKNOWN && signFrames[i] == openFrames) {
        signs[i] = UNKNOWN;
        forgotten++;
      }
    }
    openFrames--;
    return forgotten;
  }

  public char sign(int variable) throws IllegalArgumentException {
    requireVariable(variable);
    return signOf(variable);
  }

  public int rewrite(int polynomial)
      throws IndexOutOfBoundsException, UnsupportedOperationException, ArithmeticException, IllegalStateException {
    Polynomial asked = polynomialAt(polynomial);
    requirePrimeGround(asked);
    requireFinished(rewriteOnSlate(asked));
    return keep();
  }

  public int steps(int polynomial)
      throws IndexOutOfBoundsException, UnsupportedOperationException, ArithmeticException {
    Polynomial asked = polynomialAt(polynomial);
    requirePrimeGround(asked);
    int made = rewriteOnSlate(asked);
    requireFinished(made);
    return made;
  }

  // ---- promises 52 to 54: over all ----

  public float lineShare() throws ArithmeticException {
    requireAny();
    int lines = 0;
    for (int i = 0; i < keptCount; i++) {
      lines += isLineAt(i) ? 1 : 0;
    }
    return (float) lines / (float) keptCount;
  }

  public double meanTerms() throws ArithmeticException {
    requireAny();
    int sum = 0;
    for (int i = 0; i < keptCount; i++) {
      Polynomial counted = keptAt(i);
      sum += counted != null ? counted.length() : 0;
    }
    return (double) sum / (double) keptCount;
  }

  public boolean isSound() {
    for (int i = 0; i < keptCount; i++) {
      Polynomial checked = keptAt(i);
      if (checked == null || isKeptBefore(checked, i)) {
        return false;
      }
      if (checked.isFactored()) {
        bench.splitUp(checked);
        if (!bench.agrees(checked)) {
          return false;
        }
      }
    }
    for (int i = 0; i < idealCount; i++) {
      Ideal ideal = addedAt(i);
      if (ideal == null || !holdsGenerators(ideal, basisOf(ideal))) {
        return false;
      }
    }
    return true;
  }

  // ---- what the document lets a call refuse ----

  private static void requireGround(int ground) {
    if (ground != 0 && !isPrime(ground)) {
      throw new IllegalArgumentException("no such ground");
    }
  }

  private static void requirePrime(int prime) {
    if (!isPrime(prime)) {
      throw new IllegalArgumentException("no such prime");
    }
  }

  private static boolean isPrime(int number) {
    return number == 2 || number == 3 || number == 5 || number == 7 || number == 11 || number == 13;
  }

  private static boolean isVariable(int variable) {
    return variable >= 0 && variable < VARIABLES;
  }

  private static void requireVariable(int variable) {
    if (!isVariable(variable)) {
      throw new IllegalArgumentException("no such variable");
    }
  }

  private static void requireSign(char sign) {
    if (sign != '+' && sign != '-' && sign != '0') {
      throw new IllegalArgumentException("no such sign");
    }
  }

  private static void requireSameGround(Polynomial first, Polynomial second) {
    if (first.ground != second.ground) {
      throw new UnsupportedOperationException("different grounds");
    }
  }

  private static void requirePrimeGround(Polynomial polynomial) {
    if (polynomial.ground == 0) {
      throw new UnsupportedOperationException("the ground of whole numbers");
    }
  }

  private static void requireWholeGround(Polynomial polynomial) {
    if (polynomial.ground != 0) {
      throw new UnsupportedOperationException("not the ground of whole numbers");
    }
  }

  private static void requireGroundOf(Ideal ideal, Polynomial polynomial) {
    if (ideal.prime != polynomial.ground) {
      throw new UnsupportedOperationException("different grounds");
    }
  }

  private static void requireLine(Polynomial polynomial) {
    if (!polynomial.isLine()) {
      throw new UnsupportedOperationException("no line");
    }
  }

  private static void requireLines(Polynomial first, Polynomial second) {
    requireLine(first);
    requireLine(second);
    requireSameGround(first, second);
  }

  private static void requireFactored(Polynomial polynomial) {
    if (!polynomial.isFactored()) {
      throw new UnsupportedOperationException("no line of a degree that has factors");
    }
  }

  private static void requireTerms(Polynomial polynomial) {
    if (polynomial.length() == 0) {
      throw new ArithmeticException("no terms");
    }
  }

  private void requirePart(int index) {
    if (index < 0 || index >= bench.partCount) {
      throw new NoSuchElementException("no such factor");
    }
  }

  private static void requireElement(Stock basis, int index) {
    if (index < 0 || index >= basis.count) {
      throw new NoSuchElementException("no such polynomial in the basis");
    }
  }

  private static void requireTermOf(Stock basis, int index, int term) {
    if (term < 0 || term >= basis.lengthOf(index)) {
      throw new IndexOutOfBoundsException("no such term");
    }
  }

  private static void requireFinished(int made) {
    if (made < 0) {
      throw new ArithmeticException("the rules do not end in range");
    }
  }

  private void requireAny() {
    if (keptCount == 0) {
      throw new ArithmeticException("no polynomial is kept");
    }
  }

  private Polynomial keptAt(int number) {
    return number >= 0 && number < keptCount && number < kept.length ? kept[number] : null;
  }

  private Polynomial polynomialAt(int number) {
    Polynomial found = keptAt(number);
    if (found == null) {
      throw new IndexOutOfBoundsException("no such polynomial");
    }
    return found;
  }

  private Ideal addedAt(int number) {
    return number >= 0 && number < idealCount && number < ideals.length ? ideals[number] : null;
  }

  private Ideal idealAt(int number) {
    Ideal found = addedAt(number);
    if (found == null) {
      throw new NoSuchElementException("no such ideal");
    }
    return found;
  }

  private int placeOfTerm(Polynomial polynomial, int index) {
    if (index < 0 || index >= polynomial.length()) {
      throw new NoSuchElementException("no such term");
    }
    return polynomial.placeOf(index, order, tally);
  }

  // ---- keeping what was found ----

  private int keepIf(boolean inRange) {
    if (!inRange) {
      throw new ArithmeticException("a coefficient or an exponent is out of range");
    }
    return keep();
  }

  private int keepLine(Line line, int prime) {
    slate.begin(prime);
    for (int exponent = line.top; exponent >= 0; exponent--) {
      slate.put(line.at(exponent), Polynomial.monomialWith(exponent, 0, 0));
    }
    return keep();
  }

  private int keep() {
    for (int i = 0; i < keptCount; i++) {
      Polynomial known = keptAt(i);
      if (known != null && known.isSame(slate.ground, slate.result, slate.length)) {
        return i;
      }
    }
    if (keptCount >= MOST_POLYNOMIALS) {
      throw new IllegalStateException("no more polynomials");
    }
    kept[keptCount] = new Polynomial(slate.ground, slate.listed());
    return keptCount++;
  }

  private boolean isKeptBefore(Polynomial polynomial, int number) {
    for (int i = 0; i < number; i++) {
      Polynomial earlier = keptAt(i);
      if (earlier != null && earlier.isSame(polynomial.ground, polynomial.packed, polynomial.length())) {
        return true;
      }
    }
    return false;
  }

  private boolean isLineAt(int number) {
    Polynomial polynomial = keptAt(number);
    return polynomial != null && polynomial.isLine();
  }

  // ---- numbers ----

  private static int mod(long number, int prime) {
    return prime > 0 ? (int) Math.floorMod(number, (long) prime) : 0;
  }

  private static int inverse(int number, int prime) {
    for (int i = 1; i < prime; i++) {
      if (mod((long) i * number, prime) == 1) {
        return i;
      }
    }
    return 0;
  }

  private static int powerModulo(int base, int exponent, int prime) {
    int result = mod(1, prime);
    for (int i = 0; i < exponent; i++) {
      result = mod((long) result * base, prime);
    }
    return result;
  }

  private static boolean isValue(int number) {
    return number >= 0 && number <= GREATEST_VALUE;
  }

  private static boolean divides(int number, long coefficient, int ground) {
    if (number == 0) {
      return false;
    }
    return ground == 0 ? coefficient % number == 0 : mod(number, ground) != 0;
  }

  private static long divided(long coefficient, int number, int ground) {
    if (number == 0) {
      return 0;
    }
    return ground == 0 ? coefficient / number : coefficient * inverse(number, ground);
  }

  private static long commonMeasure(Polynomial polynomial) {
    long measure = 0;
    for (int i = 0; i < polynomial.length(); i++) {
      long number = Math.abs(polynomial.coefficient(i));
      // Euclid's remainders halve at least every two rounds, so 200 rounds are enough for any long
      for (int round = 0; round < 200 && number != 0; round++) {
        long left = measure % number;
        measure = number;
        number = left;
      }
    }
    return measure;
  }

  /** Makes the row long enough, and doubles it at least, so that growing copies little. */
  private static long[] roomy(long[] row, int need) {
    if (need <= row.length) {
      return row;
    }
    return Arrays.copyOf(row, Math.max(need, 2 * row.length));
  }

  private static int[] roomy(int[] row, int need) {
    if (need <= row.length) {
      return row;
    }
    return Arrays.copyOf(row, Math.max(need, 2 * row.length));
  }

  // ---- substituting, dividing, rewriting ----

  private static boolean canSubstitute(Polynomial outer, int variable, Polynomial inner) {
    for (int i = 0; i < outer.length(); i++) {
      int exponent = outer.exponent(i, variable);
      if (exponent > 0 && inner.length() == 0) {
        continue;
      }
      for (int v = 0; v < VARIABLES; v++) {
        int left = v == variable ? 0 : outer.exponent(i, v);
        int grown = exponent == 0 ? 0 : exponent * inner.height(v);
        if (left + grown > GREATEST_EXPONENT) {
          return false;
        }
      }
    }
    return true;
  }

  private void spreadTermsWith(Polynomial polynomial, int variable, int exponent) {
    for (int i = 0; i < polynomial.length(); i++) {
      if (polynomial.exponent(i, variable) == exponent) {
        slate.spread(polynomial.coefficient(i), polynomial.monomial(i) - exponent * Polynomial.unit(variable));
      }
    }
  }

  private boolean spreadRest(int index) {
    long key = divider.restKey(index);
    int first = Key.exponent(order, key, 0);
    int second = Key.exponent(order, key, 1);
    int third = Key.exponent(order, key, 2);
    if (!isExponent(first) || !isExponent(second) || !isExponent(third)) {
      return false;
    }
    slate.spread(divider.restCoefficient(index), Polynomial.monomialWith(first, second, third));
    return true;
  }

  private static boolean isExponent(int number) {
    return number >= 0 && number <= GREATEST_EXPONENT;
  }

  private Stock basisOf(Ideal ideal) {
    // the order r keeps degrees low, so the bases in the other orders are made from the one in r
    Stock inR = ideal.basisInR;
    if (inR == null) {
      completion.startWithGenerators(ideal);
      completion.treatPairs(null);
      inR = completion.reduced();
      ideal.basisInR = inR;
    }
    if (order == 'r') {
      return inR;
    }
    Stock found = order == 'l' ? ideal.basisInL : ideal.basisInD;
    if (found == null) {
      completion.startWithBasis(inR, order);
      completion.treatPairs(inR);
      found = completion.reduced();
      ideal.keepBasis(found);
    }
    return found;
  }

  private boolean holdsGenerators(Ideal ideal, Stock basis) {
    for (int i = 0; i < ideal.generatorCount; i++) {
      Polynomial generator = ideal.generatorAt(i);
      if (generator != null) {
        divider.load(generator, order);
        divider.divide(basis, Divider.ANY_TOTAL);
        if (divider.restCount > 0) {
          return false;
        }
      }
    }
    return true;
  }

  private static boolean isRuleExponent(int exponent) {
    // tested one by one, so that the sum cannot wrap around
    return exponent >= 0 && exponent <= GREATEST_RULE_DEGREE;
  }

  private static boolean isRuleDegree(int degree) {
    return degree >= 1 && degree <= GREATEST_RULE_DEGREE;
  }

  private char signOf(int variable) {
    return isVariable(variable) ? signs[variable] : UNKNOWN;
  }

  private boolean canUse(Rule rule, int ground) {
    return rule.told.ground == ground && (rule.variable < 0 || signOf(rule.variable) == rule.sign);
  }

  /** The first rule that can be used for a monomial, or null. */
  private Rule ruleFor(int monomial, int ground) {
    for (int i = 0; i < ruleCount && i < rules.length; i++) {
      Rule rule = rules[i];
      if (rule != null && canUse(rule, ground) && Polynomial.isMultiple(monomial, rule.monomial)) {
        return rule;
      }
    }
    return null;
  }

  /** The place of the greatest term on the slate that a rule can be used for; -1 without one. */
  private int placeToRewrite() {
    int found = -1;
    long greatest = -1;
    for (int i = 0; i < slate.length; i++) {
      int monomial = slate.monomial(i);
      long key = Key.ofMonomial(order, monomial);
      if (key > greatest && ruleFor(monomial, slate.ground) != null) {
        greatest = key;
        found = i;
      }
    }
    return found;
  }

  /** Leaves on the slate what a polynomial is rewritten to; the number of steps, or -1 if it does not end in range. */
  private int rewriteOnSlate(Polynomial polynomial) {
    slate.load(polynomial);
    for (int made = 0; made <= MOST_STEPS; made++) {
      int place = placeToRewrite();
      if (place < 0) {
        return made;
      }
      Rule rule = ruleFor(slate.monomial(place), slate.ground);
      if (made == MOST_STEPS || rule == null || !slate.replace(place, rule)) {
        return -1;
      }
    }
    return -1;
  }

  // ---- the parts ----

  /**
   * A ground and terms, from the greatest monomial in the order l on. A term is one long, its coefficient above 15
   * bits for the three exponents, so that 60 polynomials of all monomials still fit into the room of a run.
   */
  private static final class Polynomial {
    static final int MONOMIAL_BITS = 15;
    static final int MONOMIALS = 1 << MONOMIAL_BITS;

    final int ground;
    final long[] packed;

    Polynomial(int ground, long[] packed) {
      this.ground = ground;
      this.packed = packed;
    }

    static int monomialWith(int first, int second, int third) {
      return (first & 31) << 10 | (second & 31) << 5 | third & 31;
    }

    static int unit(int variable) {
      return variable == 0 ? 1 << 10 : variable == 1 ? 1 << 5 : 1;
    }

    static int exponentOf(int monomial, int variable) {
      return (variable == 0 ? monomial >> 10 : variable == 1 ? monomial >> 5 : monomial) & 31;
    }

    static int totalOf(int monomial) {
      return (monomial >> 10 & 31) + (monomial >> 5 & 31) + (monomial & 31);
    }

    static boolean isMultiple(int monomial, int other) {
      return exponentOf(monomial, 0) >= exponentOf(other, 0) && exponentOf(monomial, 1) >= exponentOf(other, 1)
          && exponentOf(monomial, 2) >= exponentOf(other, 2);
    }

    static long term(long coefficient, int monomial) {
      return coefficient << MONOMIAL_BITS | monomial & (MONOMIALS - 1);
    }

    static long coefficientOf(long term) {
      return term >> MONOMIAL_BITS;
    }

    static int monomialOf(long term) {
      return (int) (term & (MONOMIALS - 1));
    }

    int length() {
      return packed.length;
    }

    long coefficient(int index) {
      return index >= 0 && index < packed.length ? coefficientOf(packed[index]) : 0;
    }

    int monomial(int index) {
      return index >= 0 && index < packed.length ? monomialOf(packed[index]) : 0;
    }

    int exponent(int index, int variable) {
      return exponentOf(monomial(index), variable);
    }

    int total() {
      int total = -1;
      for (int i = 0; i < packed.length; i++) {
        total = Math.max(total, totalOf(monomialOf(packed[i])));
      }
      return total;
    }

    int height(int variable) {
      int height = -1;
      for (int i = 0; i < packed.length; i++) {
        height = Math.max(height, exponentOf(monomialOf(packed[i]), variable));
      }
      return height;
    }

    long largest() {
      long largest = 0;
      for (int i = 0; i < packed.length; i++) {
        largest = Math.max(largest, Math.abs(coefficientOf(packed[i])));
      }
      return largest;
    }

    boolean isLine() {
      return ground != 0 && height(1) <= 0 && height(2) <= 0;
    }

    boolean isFactored() {
      return isLine() && height(0) >= 1 && height(0) <= GREATEST_FACTORED_DEGREE;
    }

    boolean hasConstantTerm() {
      return packed.length > 0 && monomial(packed.length - 1) == 0;
    }

    boolean isSame(int otherGround, long[] other, int otherLength) {
      if (ground != otherGround || packed.length != otherLength || other.length < otherLength) {
        return false;
      }
      for (int i = 0; i < packed.length; i++) {
        if (packed[i] != other[i]) {
          return false;
        }
      }
      return true;
    }

    /** Where the term that has an index in an order stands in the order l. */
    int placeOf(int index, char order, int[] tally) {
      if (order == 'l') {
        return index;
      }
      Arrays.fill(tally, 0);
      for (int i = 0; i < packed.length; i++) {
        count(tally, totalOf(monomialOf(packed[i])));
      }
      int left = index;
      int total = tally.length - 1;
      for (; total > 0 && left >= tally[total]; total--) {
        left -= tally[total];
      }
      return order == 'd' ? placeWith(total, -1, left) : placeInR(total, left, tally);
    }

    private int placeInR(int total, int index, int[] tally) {
      Arrays.fill(tally, 0);
      for (int i = 0; i < packed.length; i++) {
        int monomial = monomialOf(packed[i]);
        if (totalOf(monomial) == total) {
          count(tally, exponentOf(monomial, 2));
        }
      }
      int left = index;
      int last = 0;
      for (; last < tally.length - 1 && left >= tally[last]; last++) {
        left -= tally[last];
      }
      return placeWith(total, last, left);
    }

    private static void count(int[] tally, int number) {
      if (number >= 0 && number < tally.length) {
        tally[number]++;
      }
    }

    /** Where the term with an index stands among those of a degree, and of a last exponent if that is not -1. */
    private int placeWith(int total, int last, int index) {
      int left = index;
      for (int i = 0; i < packed.length; i++) {
        int monomial = monomialOf(packed[i]);
        if (totalOf(monomial) == total && (last < 0 || exponentOf(monomial, 2) == last)) {
          if (left == 0) {
            return i;
          }
          left--;
        }
      }
      return -1;
    }
  }

  /** Where results are reckoned: a list of packed terms, and a cell for each monomial, where products are summed up. */
  private static final class Slate {
    private final long[] cells = new long[Polynomial.MONOMIALS];
    private final int[] reach = new int[VARIABLES];
    private long[] result = new long[64];
    private long[] spare = new long[64];
    private int length = 0;
    private int ground = 0;

    void begin(int ground) {
      this.ground = ground;
      length = 0;
    }

    void load(Polynomial polynomial) {
      begin(polynomial.ground);
      length = polynomial.length();
      result = roomy(result, length);
      System.arraycopy(polynomial.packed, 0, result, 0, length);
    }

    long[] listed() {
      return Arrays.copyOf(result, Math.max(length, 0));
    }

    private long term(int index) {
      return index >= 0 && index < length && index < result.length ? result[index] : 0;
    }

    long coefficient(int index) {
      return Polynomial.coefficientOf(term(index));
    }

    int monomial(int index) {
      return Polynomial.monomialOf(term(index));
    }

    private static boolean isInRange(long coefficient) {
      return coefficient >= -GREATEST_COEFFICIENT && coefficient <= GREATEST_COEFFICIENT;
    }

    private long settled(long coefficient) {
      return ground == 0 ? coefficient : mod(coefficient, ground);
    }

    /** Adds a term behind all others, whose monomials are greater; false if its coefficient is out of range. */
    boolean put(long coefficient, int monomial) {
      long settled = settled(coefficient);
      if (!isInRange(settled)) {
        return false;
      }
      if (settled != 0) {
        result = roomy(result, length + 1);
        result[length] = Polynomial.term(settled, monomial);
        length++;
      }
      return true;
    }

    /** Adds a polynomial times a factor and a monomial, which takes no exponent out of range. */
    boolean mix(Polynomial polynomial, long factor, int monomial) {
      int most = length + polynomial.length();
      spare = roomy(spare, most);
      boolean inRange = true;
      int mine = 0;
      int theirs = 0;
      int written = 0;
      for (int i = 0; i < most && (mine < length || theirs < polynomial.length()); i++) {
        int left = mine < length ? monomial(mine) : -1;
        int right = theirs < polynomial.length() ? polynomial.monomial(theirs) + monomial : -1;
        long sum = left >= right ? coefficient(mine) : 0;
        sum += right >= left ? factor * polynomial.coefficient(theirs) : 0;
        mine += left >= right ? 1 : 0;
        theirs += right >= left ? 1 : 0;
        sum = settled(sum);
        inRange &= isInRange(sum);
        if (sum != 0) {
          spare[written] = Polynomial.term(sum, Math.max(left, right));
          written++;
        }
      }
      long[] mixed = spare;
      spare = result;
      result = mixed;
      length = written;
      return inRange;
    }

    boolean times(Polynomial polynomial) {
      return spreadProduct(polynomial) && collect();
    }

    /** Adds the product of the result and a polynomial to the cells; false, and no change, if two terms go out of range. */
    boolean spreadProduct(Polynomial polynomial) {
      if (length == 0 || polynomial.length() == 0) {
        length = 0;
        return true;
      }
      if (!canMultiply(polynomial)) {
        return false;
      }
      for (int variable = 0; variable < VARIABLES; variable++) {
        reach[variable] = Math.max(reach[variable], height(variable) + polynomial.height(variable));
      }
      for (int i = 0; i < length; i++) {
        long coefficient = coefficient(i);
        int monomial = monomial(i);
        for (int j = 0; j < polynomial.packed.length; j++) {
          long other = polynomial.packed[j];
          int cell = monomial + Polynomial.monomialOf(other) & Polynomial.MONOMIALS - 1;
          cells[cell] += coefficient * Polynomial.coefficientOf(other);
        }
      }
      length = 0;
      return true;
    }

    private boolean canMultiply(Polynomial polynomial) {
      for (int variable = 0; variable < VARIABLES; variable++) {
        if (height(variable) + polynomial.height(variable) > GREATEST_EXPONENT) {
          return false;
        }
      }
      long largest = polynomial.largest();
      // the two largest ones tell for all; dividing cannot wrap around as multiplying would
      return ground != 0 || largest == 0 || largest() <= GREATEST_COEFFICIENT / largest;
    }

    private int height(int variable) {
      int height = -1;
      for (int i = 0; i < length; i++) {
        height = Math.max(height, Polynomial.exponentOf(monomial(i), variable));
      }
      return height;
    }

    private long largest() {
      long largest = 0;
      for (int i = 0; i < length; i++) {
        largest = Math.max(largest, Math.abs(coefficient(i)));
      }
      return largest;
    }

    /** Adds a term to the cells. */
    void spread(long coefficient, int monomial) {
      cells[monomial & Polynomial.MONOMIALS - 1] += coefficient;
      for (int variable = 0; variable < VARIABLES; variable++) {
        reach[variable] = Math.max(reach[variable], Polynomial.exponentOf(monomial, variable));
      }
    }

    /** Takes what the cells hold as the result, and empties them; false if a coefficient is out of range. */
    boolean collect() {
      length = 0;
      boolean inRange = true;
      for (int first = reach[0]; first >= 0; first--) {
        for (int second = reach[1]; second >= 0; second--) {
          for (int third = reach[2]; third >= 0; third--) {
            int monomial = Polynomial.monomialWith(first, second, third);
            if (cells[monomial] != 0) {
              inRange &= put(cells[monomial], monomial);
              cells[monomial] = 0;
            }
          }
        }
      }
      Arrays.fill(reach, 0);
      return inRange;
    }

    /** Uses a rule on the term at a place; false if an exponent goes out of range. */
    boolean replace(int place, Rule rule) {
      if (place < 0 || place >= length || length > result.length) {
        return false;
      }
      long coefficient = coefficient(place);
      int left = monomial(place) - rule.monomial;
      for (int variable = 0; variable < VARIABLES; variable++) {
        if (Polynomial.exponentOf(left, variable) + rule.told.height(variable) > GREATEST_EXPONENT) {
          return false;
        }
      }
      System.arraycopy(result, place + 1, result, place, length - place - 1);
      length--;
      return mix(rule.told, coefficient, left);
    }
  }

  /** Coefficients of a line, by exponents; above the top one they are 0. */
  private static final class Line {
    /** A line has at most the exponent 30, and products are made of lines of a degree of at most 6. */
    static final int LENGTH = 32;

    private final int[] row = new int[LENGTH];
    private int top = -1;

    int at(int exponent) {
      return exponent >= 0 && exponent < LENGTH ? row[exponent] : 0;
    }

    void put(int exponent, int number) {
      if (exponent < 0 || exponent >= LENGTH) {
        return;
      }
      row[exponent] = number;
      if (number != 0) {
        top = Math.max(top, exponent);
      } else if (exponent == top) {
        lowerTop();
      }
    }

    private void lowerTop() {
      int lower = top < LENGTH ? top : LENGTH - 1;
      for (; lower >= 0 && row[lower] == 0; lower--) {
        top = lower - 1;
      }
    }

    void clear() {
      Arrays.fill(row, 0);
      top = -1;
    }

    void copy(Line other) {
      System.arraycopy(other.row, 0, row, 0, LENGTH);
      top = other.top;
    }

    void load(Polynomial polynomial) {
      clear();
      for (int i = 0; i < polynomial.length(); i++) {
        put(polynomial.exponent(i, 0), (int) polynomial.coefficient(i));
      }
    }

    int lead() {
      return at(top);
    }

    boolean isEqual(Line other) {
      for (int i = 0; i < LENGTH; i++) {
        if (row[i] != other.row[i]) {
          return false;
        }
      }
      return true;
    }
  }

  /** Where lines are divided and taken apart. */
  private static final class Bench {
    private static final int MATRIX = 2 * GREATEST_EXPONENT;
    /** Each division lowers a degree, which is at most 30. */
    private static final int MOST_DIVISIONS = 2 * Line.LENGTH;

    private int prime = 2;
    private final Line one = new Line();
    private final Line two = new Line();
    private final Line three = new Line();
    private final Line quotient = new Line();
    private final Line product = new Line();
    private final Line whole = new Line();
    private final Line left = new Line();
    private final Line trial = new Line();
    private final Line candidate = new Line();
    private final Line below = new Line();
    private final Line factor = new Line();
    private final Line lastFactor = new Line();
    private final Line[] parts = new Line[GREATEST_FACTORED_DEGREE];
    private final int[] times = new int[GREATEST_FACTORED_DEGREE];
    private int partCount = 0;
    private final int[] matrix = new int[MATRIX * MATRIX];
    private final int[] numbers = new int[GREATEST_SERIES_INDEX + 1];

    Bench() {
      for (int i = 0; i < GREATEST_FACTORED_DEGREE; i++) {
        parts[i] = new Line();
      }
    }

    private void load(Polynomial first, Polynomial second) {
      prime = first.ground;
      one.load(first);
      two.load(second);
    }

    /** Leaves the remainder in the first line, and the quotient in the line for it. */
    private void divide(Line rest, Line by) {
      quotient.clear();
      if (by.top < 0) {
        return;
      }
      int inverse = inverse(by.lead(), prime);
      for (int shift = rest.top - by.top; shift >= 0; shift--) {
        int taken = mod(rest.at(shift + by.top) * inverse, prime);
        if (taken != 0) {
          quotient.put(shift, taken);
          for (int i = 0; i <= by.top; i++) {
            rest.put(shift + i, mod(rest.at(shift + i) - taken * by.at(i), prime));
          }
        }
      }
    }

    /** Adds a multiple of the product of two lines to a third one. */
    private void addProduct(Line sum, Line first, Line second, int multiple) {
      for (int i = 0; i <= first.top; i++) {
        for (int j = 0; j <= second.top; j++) {
          sum.put(i + j, mod(sum.at(i + j) + multiple * first.at(i) * second.at(j), prime));
        }
      }
    }

    private void multiplyBy(Line line, Line other) {
      product.clear();
      addProduct(product, line, other, 1);
      line.copy(product);
    }

    private void scale(Line line, int number) {
      for (int i = line.top; i >= 0; i--) {
        line.put(i, mod(line.at(i) * number, prime));
      }
    }

    /** The monic common divisor of two lines, in one of both. */
    private Line reduce(Line first, Line second) {
      Line greater = first;
      Line lesser = second;
      for (int i = 0; i < MOST_DIVISIONS && lesser.top >= 0; i++) {
        divide(greater, lesser);
        Line rest = greater;
        greater = lesser;
        lesser = rest;
      }
      scale(greater, inverse(greater.lead(), prime));
      return greater;
    }

    private int valueAt(Line line, int place) {
      int sum = 0;
      for (int i = line.top; i >= 0; i--) {
        sum = mod((long) sum * place + line.at(i), prime);
      }
      return sum;
    }

    Line quotientOf(Polynomial first, Polynomial second) {
      load(first, second);
      divide(one, two);
      return quotient;
    }

    Line remainderOf(Polynomial first, Polynomial second) {
      load(first, second);
      divide(one, two);
      return one;
    }

    Line divisorOf(Polynomial first, Polynomial second) {
      load(first, second);
      return reduce(one, two);
    }

    Line part(int index) {
      return index >= 0 && index < parts.length && parts[index] != null ? parts[index] : one;
    }

    int timesOfPart(int index) {
      return index >= 0 && index < times.length ? times[index] : 0;
    }

    /** Finds the factors: whatever line of half the degree at most divides what the lesser ones have left. */
    void splitUp(Polynomial polynomial) {
      prime = polynomial.ground;
      partCount = 0;
      left.load(polynomial);
      scale(left, inverse(left.lead(), prime));
      for (int degree = 1; 2 * degree <= GREATEST_FACTORED_DEGREE; degree++) {
        tryCandidates(degree);
      }
      if (left.top > 0) {
        notePart(left, 1);
      }
    }

    private void tryCandidates(int degree) {
      candidate.clear();
      candidate.put(degree, 1);
      int many = 1;
      for (int i = 0; i < degree; i++) {
        many *= prime;
      }
      for (int i = 0; i < many && left.top >= 2 * degree; i++) {
        int times = timesTakenOut(candidate);
        if (times > 0) {
          notePart(candidate, times);
        }
        raiseCandidate(degree);
      }
    }

    private void raiseCandidate(int degree) {
      boolean carried = true;
      for (int i = 0; i < degree && carried; i++) {
        int raised = candidate.at(i) + 1;
        carried = raised == prime;
        candidate.put(i, carried ? 0 : raised);
      }
    }

    private int timesTakenOut(Line line) {
      int times = 0;
      for (int i = 0; i < GREATEST_FACTORED_DEGREE; i++) {
        trial.copy(left);
        divide(trial, line);
        if (trial.top >= 0 || left.top < line.top) {
          return times;
        }
        left.copy(quotient);
        times++;
      }
      return times;
    }

    private void notePart(Line line, int many) {
      if (partCount >= 0 && partCount < times.length) {
        part(partCount).copy(line);
        times[partCount] = many;
        partCount++;
      }
    }

    /** A line with a factor of a degree k shares it with the k-th Frobenius power of x minus x. */
    boolean powersTellIrreducible(Polynomial polynomial) {
      prime = polynomial.ground;
      whole.load(polynomial);
      trial.clear();
      trial.put(1, 1);
      for (int k = 1; 2 * k <= whole.top; k++) {
        three.copy(trial);
        for (int i = 1; i < prime; i++) {
          multiplyBy(trial, three);
          divide(trial, whole);
        }
        one.copy(trial);
        one.put(1, mod(one.at(1) - 1, prime));
        two.copy(whole);
        if (reduce(two, one).top > 0) {
          return false;
        }
      }
      return true;
    }

    /**
     * Whether a line is the product of its factors, and irreducible just if the powers of x tell so; its factors must
     * be the ones found last.
     */
    boolean agrees(Polynomial polynomial) {
      whole.load(polynomial);
      one.clear();
      one.put(0, whole.lead());
      for (int i = 0; i < partCount; i++) {
        for (int j = 0; j < timesOfPart(i); j++) {
          multiplyBy(one, part(i));
        }
      }
      boolean isOneFactor = partCount == 1 && timesOfPart(0) == 1;
      return one.isEqual(whole) && isOneFactor == powersTellIrreducible(polynomial);
    }

    int rootsOf(Polynomial polynomial) {
      prime = polynomial.ground;
      one.load(polynomial);
      int roots = 0;
      for (int place = 0; place < prime; place++) {
        roots += valueAt(one, place) == 0 ? 1 : 0;
      }
      return roots;
    }

    int resultantByRemainders(Polynomial first, Polynomial second) {
      load(first, second);
      Line upper = one;
      Line lower = two;
      int result = 1;
      for (int i = 0; i < MOST_DIVISIONS && lower.top > 0; i++) {
        int degree = upper.top;
        int sign = degree % 2 == 1 && lower.top % 2 == 1 ? -1 : 1;
        divide(upper, lower);
        if (upper.top < 0) {
          return 0;
        }
        result = mod(result * sign * powerModulo(lower.lead(), degree - upper.top, prime), prime);
        Line rest = upper;
        upper = lower;
        lower = rest;
      }
      return mod(result * powerModulo(lower.at(0), upper.top, prime), prime);
    }

    int determinantOf(Polynomial first, Polynomial second) {
      load(first, second);
      int m = one.top;
      int n = two.top;
      int rows = m + n;
      Arrays.fill(matrix, 0);
      for (int row = 0; row < n; row++) {
        for (int i = 0; i <= m; i++) {
          setCell(row, row + i, one.at(m - i));
        }
      }
      for (int row = 0; row < m; row++) {
        for (int i = 0; i <= n; i++) {
          setCell(n + row, row + i, two.at(n - i));
        }
      }
      int determinant = 1;
      for (int column = 0; column < rows; column++) {
        determinant = mod(determinant * clearColumn(column, rows), prime);
      }
      return determinant;
    }

    private int cell(int row, int column) {
      boolean isInside = row >= 0 && row < MATRIX && column >= 0 && column < MATRIX;
      return isInside ? matrix[row * MATRIX + column] : 0;
    }

    private void setCell(int row, int column, int number) {
      if (row >= 0 && row < MATRIX && column >= 0 && column < MATRIX) {
        matrix[row * MATRIX + column] = number;
      }
    }

    /** Makes a column 0 below the diagonal; what it adds to the determinant as a factor. */
    private int clearColumn(int column, int rows) {
      int pivot = column;
      for (; pivot < rows && cell(pivot, column) == 0; pivot++) {
        // the first row from the diagonal on that has a number here
      }
      if (pivot >= rows) {
        return 0;
      }
      for (int i = column; i < rows && pivot != column; i++) {
        int upper = cell(column, i);
        setCell(column, i, cell(pivot, i));
        setCell(pivot, i, upper);
      }
      int inverse = inverse(cell(column, column), prime);
      for (int row = column + 1; row < rows; row++) {
        int taken = mod(cell(row, column) * inverse, prime);
        for (int i = column; i < rows && taken != 0; i++) {
          setCell(row, i, mod(cell(row, i) - taken * cell(column, i), prime));
        }
      }
      return pivot == column ? cell(column, column) : -cell(column, column);
    }

    int seriesNumber(Polynomial first, Polynomial second, int index) {
      load(first, second);
      int inverse = inverse(two.at(0), prime);
      int number = 0;
      for (int k = 0; k <= index && k < numbers.length; k++) {
        int sum = one.at(k);
        for (int j = 1; j <= k; j++) {
          sum = mod(sum - two.at(j) * numbers[k - j], prime);
        }
        number = mod(sum * inverse, prime);
        numbers[k] = number;
      }
      return number;
    }

    /** The limit of a fraction, or -1 if it is infinite. */
    int limitAt(Polynomial first, Polynomial second, int place) {
      load(first, second);
      three.clear();
      three.put(1, 1);
      three.put(0, mod(-place, prime));
      for (int i = 0; i < Line.LENGTH && valueAt(one, place) == 0 && valueAt(two, place) == 0; i++) {
        divide(one, three);
        one.copy(quotient);
        divide(two, three);
        two.copy(quotient);
      }
      int denominator = valueAt(two, place);
      return denominator == 0 ? -1 : mod(valueAt(one, place) * inverse(denominator, prime), prime);
    }

    /** The partial numerator for a factor; the factors of the second line must be the ones found last. */
    Line partialNumerator(Polynomial first, Polynomial second, int index) {
      load(first, second);
      divide(one, two);
      below.clear();
      below.put(0, 1);
      for (int i = 0; i < timesOfPart(index); i++) {
        multiplyBy(below, part(index));
      }
      divide(two, below);
      two.copy(quotient);
      divide(two, below);
      invertModuloBelow(two);
      multiplyBy(one, factor);
      divide(one, below);
      return one;
    }

    /** Leaves the factor that makes 1 of a line, modulo the one below, by Euclid's remainders. */
    private void invertModuloBelow(Line line) {
      Line upper = trial;
      Line lower = line;
      Line upperFactor = lastFactor;
      Line lowerFactor = factor;
      upper.copy(below);
      upperFactor.clear();
      lowerFactor.clear();
      lowerFactor.put(0, 1);
      for (int i = 0; i < MOST_DIVISIONS && lower.top > 0; i++) {
        divide(upper, lower);
        addProduct(upperFactor, quotient, lowerFactor, -1);
        Line rest = upper;
        upper = lower;
        lower = rest;
        Line restFactor = upperFactor;
        upperFactor = lowerFactor;
        lowerFactor = restFactor;
      }
      scale(lowerFactor, inverse(lower.at(0), prime));
      product.copy(lowerFactor);
      factor.copy(product);
    }
  }

  /** An ideal, and its bases as far as they have been asked for. */
  private static final class Ideal {
    final int prime;
    private final Polynomial[] generators = new Polynomial[MOST_GENERATORS];
    private int generatorCount = 0;
    private Stock basisInL = null;
    private Stock basisInD = null;
    private Stock basisInR = null;

    Ideal(int prime) {
      this.prime = prime;
    }

    boolean accept(Polynomial generator) {
      if (generatorCount >= MOST_GENERATORS) {
        return false;
      }
      generators[generatorCount] = generator;
      generatorCount++;
      basisInL = null;
      basisInD = null;
      basisInR = null;
      return true;
    }

    void keepBasis(Stock basis) {
      if (basis.order == 'l') {
        basisInL = basis;
      } else {
        basisInD = basis;
      }
    }

    Polynomial generatorAt(int index) {
      return index >= 0 && index < generatorCount ? generators[index] : null;
    }
  }

  /** What a monomial is replaced by, and the condition for it. */
  private static final class Rule {
    final int monomial;
    final Polynomial told;
    final int variable;
    final char sign;

    Rule(int monomial, Polynomial told, int variable, char sign) {
      this.monomial = monomial;
      this.told = told;
      this.variable = variable;
      this.sign = sign;
    }
  }

  /**
   * Numbers for monomials, the greater one for the greater monomial in an order; the number of a product is the sum
   * of those of its monomials. Exponents may go up to half a million, far above those of any basis.
   */
  private static final class Key {
    static final int FIELD = 19;
    static final long FIELD_MASK = (1L << FIELD) - 1;
    static final int COEFFICIENT_BITS = 4;
    static final long COEFFICIENT_MASK = (1L << COEFFICIENT_BITS) - 1;

    static long ofMonomial(char order, int monomial) {
      return of(order, Polynomial.exponentOf(monomial, 0), Polynomial.exponentOf(monomial, 1),
          Polynomial.exponentOf(monomial, 2));
    }

    static long of(char order, int first, int second, int third) {
      if (order == 'l') {
        return (long) first << 2 * FIELD | (long) second << FIELD | third;
      }
      long total = (long) (first + second + third) << 2 * FIELD;
      return order == 'd' ? total + ((long) first << FIELD) + second : total - ((long) third << FIELD) - second;
    }

    static int exponent(char order, long key, int variable) {
      if (order == 'l') {
        return (int) (key >> (2 - variable) * FIELD & FIELD_MASK);
      }
      long total = order == 'd' ? key >> 2 * FIELD : key + (1L << 2 * FIELD) - 1 >> 2 * FIELD;
      long left = order == 'd' ? key - (total << 2 * FIELD) : (total << 2 * FIELD) - key;
      long outer = left >> FIELD;
      long second = left & FIELD_MASK;
      if (variable == 1) {
        return (int) second;
      }
      boolean isOuter = order == 'd' ? variable == 0 : variable == 2;
      return (int) (isOuter ? outer : total - outer - second);
    }

    static int coefficientOf(long term) {
      return (int) (term & COEFFICIENT_MASK);
    }

    static long ofTerm(long term) {
      return term >> COEFFICIENT_BITS;
    }

    static long term(long key, int coefficient) {
      return key << COEFFICIENT_BITS | coefficient & COEFFICIENT_MASK;
    }
  }

  /**
   * Monic polynomials over a prime in one order, one behind the other, each term its key above its coefficient.
   *
   * While a basis is made, each polynomial stands for a homogeneous one with a fourth variable: its total degree is
   * kept beside it, and what a term lacks of it is the exponent of the fourth variable. So degrees stay low where
   * the order alone would let them grow.
   */
  private static final class Stock {
    static final int EXPONENTS = VARIABLES + 1;
    /** The document tells no bound for a basis; this one is far above what the room of a run could hold. */
    static final int MOST_ELEMENTS = 1000000;

    private char order = 'r';
    private int prime = 2;
    private long[] packed;
    private int[] starts;
    /** The exponents of the leading monomials, four for each. */
    private int[] leads;
    /** For each polynomial 1 if it is gone, otherwise 0. */
    private int[] gone;
    private int count = 0;

    Stock(int elements, int room) {
      packed = new long[Math.max(room, 1)];
      starts = new int[Math.max(elements, 0) + 1];
      leads = new int[EXPONENTS * Math.max(elements, 0)];
      gone = new int[Math.max(elements, 0)];
    }

    void clear(int prime, char order) {
      this.prime = prime;
      this.order = order;
      count = 0;
      starts[0] = 0;
    }

    int start(int element) {
      return element >= 0 && element < starts.length ? starts[element] : 0;
    }

    int lengthOf(int element) {
      return element >= 0 && element < count ? start(element + 1) - start(element) : 0;
    }

    long termOf(int element, int index) {
      int place = start(element) + index;
      return index >= 0 && index < lengthOf(element) && place < packed.length ? packed[place] : 0;
    }

    long key(int element, int index) {
      return Key.ofTerm(termOf(element, index));
    }

    int coefficient(int element, int index) {
      return Key.coefficientOf(termOf(element, index));
    }

    /** An exponent of a leading monomial. */
    int lead(int element, int variable) {
      int place = EXPONENTS * element + variable;
      return place >= 0 && place < leads.length ? leads[place] : 0;
    }

    int leadTotal(int element) {
      return lead(element, 0) + lead(element, 1) + lead(element, 2);
    }

    boolean isGone(int element) {
      return element < 0 || element >= gone.length || gone[element] != 0;
    }

    void remove(int element) {
      if (element >= 0 && element < gone.length) {
        gone[element] = 1;
      }
    }

    /** Adds a polynomial, which has terms; false without any. */
    boolean append(long[] list, int length, int total) {
      if (count < 0 || count >= MOST_ELEMENTS || length < 1 || length > list.length) {
        return false;
      }
      int start = start(count);
      makeRoom(start + length);
      System.arraycopy(list, 0, packed, start, length);
      int left = total;
      for (int variable = 0; variable < VARIABLES; variable++) {
        int exponent = Key.exponent(order, Key.ofTerm(list[0]), variable);
        leads[EXPONENTS * count + variable] = exponent;
        left -= exponent;
      }
      leads[EXPONENTS * count + VARIABLES] = left;
      gone[count] = 0;
      count++;
      starts[count] = start + length;
      return true;
    }

    /** Makes room for one polynomial more, and for so many terms in all. */
    private void makeRoom(int terms) {
      packed = roomy(packed, terms);
      starts = roomy(starts, count + 2);
      leads = roomy(leads, EXPONENTS * (count + 1));
      gone = roomy(gone, count + 1);
    }

    boolean leadDivides(int element, int first, int second, int third, int fourth) {
      return lead(element, 0) <= first && lead(element, 1) <= second && lead(element, 2) <= third
          && lead(element, VARIABLES) <= fourth;
    }

    /** The first polynomial whose leading monomial divides a monomial of a total degree; -1 without one. */
    int dividing(int first, int second, int third, int total) {
      int fourth = total - first - second - third;
      for (int i = 0; i < count; i++) {
        if (!isGone(i) && leadDivides(i, first, second, third, fourth)) {
          return i;
        }
      }
      return -1;
    }

    /** The number of monomials of a total degree in four variables that no leading monomial divides. */
    int countStandard(int total) {
      int standard = 0;
      for (int first = 0; first <= total; first++) {
        for (int second = 0; first + second <= total; second++) {
          for (int third = 0; first + second + third <= total; third++) {
            standard += dividing(first, second, third, total) < 0 ? 1 : 0;
          }
        }
      }
      return standard;
    }

    /** The number of monomials in three variables that no leading monomial divides; -1 if they are without end. */
    int countStandard() {
      int first = leastPower(0);
      int second = leastPower(1);
      int third = leastPower(2);
      if (first < 0 || second < 0 || third < 0) {
        return -1;
      }
      int standard = 0;
      for (int i = 0; i < first; i++) {
        for (int j = 0; j < second; j++) {
          for (int k = 0; k < third; k++) {
            standard += dividing(i, j, k, Divider.ANY_TOTAL) < 0 ? 1 : 0;
          }
        }
      }
      return standard;
    }

    /** The least power of a variable alone that is a leading monomial; -1 without one. */
    private int leastPower(int variable) {
      int least = -1;
      for (int i = 0; i < count; i++) {
        int exponent = lead(i, variable);
        if (leadTotal(i) == exponent && (least < 0 || exponent < least)) {
          least = exponent;
        }
      }
      return least;
    }

    Stock compact() {
      Stock copy = new Stock(count, start(count));
      copy.clear(prime, order);
      System.arraycopy(packed, 0, copy.packed, 0, Math.min(start(count), copy.packed.length));
      System.arraycopy(starts, 0, copy.starts, 0, Math.min(count + 1, copy.starts.length));
      System.arraycopy(leads, 0, copy.leads, 0, Math.min(EXPONENTS * count, copy.leads.length));
      copy.count = count;
      return copy;
    }
  }

  /**
   * A sum of terms, from which the greatest one is taken again and again. Rows of rising length hold parts of it, so
   * that adding a short list does not move a long one.
   */
  private static final class Buckets {
    private static final int LEVELS = 9;
    private static final int LEAST_ROOM = 32;

    private int prime = 2;
    private final long[][] rows = new long[LEVELS][0];
    private final int[] heads = new int[LEVELS];
    private final int[] ends = new int[LEVELS];
    private long[] merged = new long[64];
    private long[] carried = new long[64];
    private int mergedCount = 0;

    void clear(int prime) {
      this.prime = prime;
      Arrays.fill(heads, 0);
      Arrays.fill(ends, 0);
    }

    private static int room(int level) {
      return LEAST_ROOM << 2 * level;
    }

    /** Adds a part of a list, whose terms fall, times a monomial and a factor. */
    void insert(long[] list, int from, int to, long monomial, int factor) {
      int start = Math.max(from, 0);
      int end = Math.min(to, list.length);
      int level = 0;
      for (; level < LEVELS - 1 && end - start > room(level); level++) {
        // the first row that is long enough for the list
      }
      merged = roomy(merged, lengthOf(level) + Math.max(end - start, 0));
      merge(level, list, start, end, monomial, factor);
      for (; level < LEVELS - 1 && mergedCount > room(level); level++) {
        heads[level] = 0;
        ends[level] = 0;
        long[] sum = merged;
        merged = carried;
        carried = sum;
        merged = roomy(merged, lengthOf(level + 1) + mergedCount);
        merge(level + 1, carried, 0, mergedCount, 0, 1);
      }
      rows[level] = roomy(rows[level], Math.max(mergedCount, Math.min(room(level), 2048)));
      System.arraycopy(merged, 0, rows[level], 0, mergedCount);
      heads[level] = 0;
      ends[level] = mergedCount;
    }

    private int lengthOf(int level) {
      return level >= 0 && level < LEVELS ? ends[level] - heads[level] : 0;
    }

    /** Leaves the sum of a row and a list, which is multiplied, as the merged list. */
    private void merge(int level, long[] list, int from, int to, long monomial, int factor) {
      mergedCount = 0;
      if (level < 0 || level >= LEVELS || prime < 2) {
        return;
      }
      long[] row = rows[level];
      int mine = heads[level];
      int end = Math.min(ends[level], row.length);
      int theirs = from;
      int last = Math.min(to, list.length);
      for (int i = end - mine + last - from; i > 0 && mergedCount < merged.length; i--) {
        long left = mine < end ? row[mine] : -1;
        long right = theirs < last ? list[theirs] : -1;
        long leftKey = mine < end ? left >> Key.COEFFICIENT_BITS : -1;
        long rightKey = theirs < last ? (right >> Key.COEFFICIENT_BITS) + monomial : -1;
        if (leftKey < 0 && rightKey < 0) {
          return;
        }
        long sum = leftKey >= rightKey ? left & Key.COEFFICIENT_MASK : 0;
        sum += rightKey >= leftKey ? (right & Key.COEFFICIENT_MASK) * factor : 0;
        mine += leftKey >= rightKey ? 1 : 0;
        theirs += rightKey >= leftKey ? 1 : 0;
        sum %= prime;
        if (sum != 0) {
          merged[mergedCount] = Math.max(leftKey, rightKey) << Key.COEFFICIENT_BITS | sum;
          mergedCount++;
        }
      }
    }

    /** Takes the greatest term out of the sum; -1 if nothing is left. */
    long takeGreatest() {
      for (int round = 0; round < Divider.MANY; round++) {
        long greatest = -1;
        for (int level = 0; level < LEVELS; level++) {
          greatest = Math.max(greatest, headKey(level));
        }
        if (greatest < 0) {
          return -1;
        }
        int sum = 0;
        for (int level = 0; level < LEVELS; level++) {
          if (headKey(level) == greatest) {
            sum += Key.coefficientOf(rows[level][heads[level]]);
            heads[level]++;
          }
        }
        sum = mod(sum, prime);
        if (sum != 0) {
          return Key.term(greatest, sum);
        }
      }
      return -1;
    }

    private long headKey(int level) {
      boolean isEmpty = heads[level] >= ends[level] || heads[level] >= rows[level].length;
      return isEmpty ? -1 : Key.ofTerm(rows[level][heads[level]]);
    }
  }

  /** Divides a sum of terms by the polynomials of a stock, and holds what is left. */
  private static final class Divider {
    static final int ANY_TOTAL = 1 << 29;
    /** A bound for loops, far above what any division can need. */
    static final int MANY = 1000000000;

    private final Buckets buckets = new Buckets();
    private final long[] single = new long[1];
    private long[] rest = new long[64];
    private int restCount = 0;
    private int prime = 2;

    void begin(int prime) {
      this.prime = prime;
      restCount = 0;
      buckets.clear(prime);
    }

    void load(Polynomial polynomial, char order) {
      begin(polynomial.ground);
      for (int i = 0; i < polynomial.length(); i++) {
        insertTerm(Key.term(Key.ofMonomial(order, polynomial.monomial(i)), (int) polynomial.coefficient(i)));
      }
    }

    void insertTerm(long term) {
      single[0] = term;
      buckets.insert(single, 0, 1, 0, 1);
    }

    /** Adds the terms of a polynomial of a stock behind the leading one, times a monomial and a factor. */
    void insertTail(Stock stock, int element, long monomial, int factor) {
      buckets.insert(stock.packed, stock.start(element) + 1, stock.start(element + 1), monomial, factor);
    }

    void keepAside(long term) {
      rest = roomy(rest, restCount + 1);
      rest[restCount] = term;
      restCount++;
    }

    /** Moves the sum to the rest, all that the stock divides within a total degree being replaced. */
    void divide(Stock stock, int total) {
      char order = stock.order;
      for (int i = 0; i < MANY; i++) {
        long term = buckets.takeGreatest();
        if (term < 0) {
          return;
        }
        long key = Key.ofTerm(term);
        int divisor = stock.dividing(Key.exponent(order, key, 0), Key.exponent(order, key, 1),
            Key.exponent(order, key, 2), total);
        if (divisor < 0) {
          keepAside(term);
        } else {
          insertTail(stock, divisor, key - stock.key(divisor, 0), prime - Key.coefficientOf(term));
        }
      }
    }

    void makeMonic() {
      int factor = restCount > 0 ? inverse(restCoefficient(0), prime) : 1;
      for (int i = 0; i < restCount && i < rest.length; i++) {
        rest[i] = Key.term(Key.ofTerm(rest[i]), mod(restCoefficient(i) * factor, prime));
      }
    }

    long restKey(int index) {
      return index >= 0 && index < restCount ? Key.ofTerm(rest[index]) : 0;
    }

    int restCoefficient(int index) {
      return index >= 0 && index < restCount ? Key.coefficientOf(rest[index]) : 0;
    }
  }

  /** Makes reduced bases: pairs of polynomials are brought together by rising total degree, after Buchberger. */
  private static final class Completion {
    /** Where the rows begin, which grow; most ideals need fewer polynomials and pairs at once. */
    private static final int FEW = 16;
    /** Far above what the room of a run could hold. */
    private static final int MOST_PAIRS = 1000000;
    private static final int PAIR = 7;
    private static final int TOTAL = 2;
    private static final int LEAST = 3;
    private static final int EXPONENTS = Stock.EXPONENTS;
    private static final int UNSEEN = 0;
    private static final int CHOSEN = 1;
    private static final int DROPPED = 2;

    private final Divider divider = new Divider();
    private final Stock work = new Stock(FEW, 256);
    private final Stock built = new Stock(FEW, 256);
    /** For each pair its two polynomials, its total degree, and the exponents of the least common multiple. */
    private int[] pairs = new int[PAIR * FEW];
    private int pairCount = 0;
    private int[] multiples = new int[EXPONENTS * FEW];
    private int[] states = new int[FEW];

    /** Begins a basis in the order r. */
    void startWithGenerators(Ideal ideal) {
      begin(ideal.prime, 'r');
      for (int i = 0; i < ideal.generatorCount; i++) {
        Polynomial generator = ideal.generatorAt(i);
        if (generator != null) {
          divider.load(generator, 'r');
          divider.divide(work, generator.total());
          take(generator.total());
        }
      }
    }

    /** Begins a basis in another order for an ideal that has a basis in the order r. */
    void startWithBasis(Stock basis, char order) {
      begin(basis.prime, order);
      for (int i = 0; i < basis.count; i++) {
        divider.begin(basis.prime);
        for (int j = 0; j < basis.lengthOf(i); j++) {
          long key = basis.key(i, j);
          long other = Key.of(order, Key.exponent('r', key, 0), Key.exponent('r', key, 1), Key.exponent('r', key, 2));
          divider.insertTerm(Key.term(other, basis.coefficient(i, j)));
        }
        divider.divide(work, basis.leadTotal(i));
        take(basis.leadTotal(i));
      }
    }

    private void begin(int prime, char order) {
      work.clear(prime, order);
      pairCount = 0;
    }

    /** Takes what the divider has left into the work; false if nothing is left. */
    private boolean take(int total) {
      if (divider.restCount == 0) {
        return false;
      }
      divider.makeMonic();
      if (work.append(divider.rest, divider.restCount, total)) {
        int added = work.count - 1;
        dropCoveredPairs(added);
        choosePartners(added);
        addPairs(added);
      }
      return true;
    }

    /**
     * Treats all pairs. A basis in the order r tells how many leading monomials of each total degree there must be:
     * when they are found, the other pairs of that degree can bring nothing.
     */
    void treatPairs(Stock guide) {
      int total = -1;
      int missing = 0;
      for (int i = 0; i < Divider.MANY && pairCount > 0; i++) {
        int pair = leastPair();
        if (guide != null && pairPart(pair, TOTAL) != total) {
          total = pairPart(pair, TOTAL);
          missing = work.countStandard(total) - guide.countStandard(total);
        }
        if (guide != null && missing <= 0) {
          dropPair(pair);
        } else {
          int pairTotal = pairPart(pair, TOTAL);
          load(pair);
          divider.divide(work, pairTotal);
          missing -= take(pairTotal) ? 1 : 0;
        }
      }
    }

    private int leastPair() {
      int least = 0;
      for (int pair = PAIR; pair < PAIR * pairCount; pair += PAIR) {
        int difference = Integer.compare(pairPart(pair, TOTAL), pairPart(least, TOTAL));
        if (difference < 0 || difference == 0 && multipleKey(pair) < multipleKey(least)) {
          least = pair;
        }
      }
      return least;
    }

    private long multipleKey(int pair) {
      return Key.of(work.order, pairPart(pair, LEAST), pairPart(pair, LEAST + 1), pairPart(pair, LEAST + 2));
    }

    /** A part of the pair that begins at a place. */
    private int pairPart(int pair, int part) {
      int place = pair + part;
      return place >= 0 && place < pairs.length ? pairs[place] : 0;
    }

    private void dropPair(int pair) {
      if (pairCount < 1 || PAIR * pairCount > pairs.length || pair < 0 || pair > PAIR * (pairCount - 1)) {
        return;
      }
      pairCount--;
      System.arraycopy(pairs, PAIR * pairCount, pairs, pair, PAIR);
    }

    /** Takes a pair away, and gives the divider the difference of its polynomials, their leading terms cancelled. */
    private void load(int pair) {
      int first = pairPart(pair, 0);
      int second = pairPart(pair, 1);
      long multiple = multipleKey(pair);
      dropPair(pair);
      divider.begin(work.prime);
      divider.insertTail(work, first, multiple - work.key(first, 0), 1);
      divider.insertTail(work, second, multiple - work.key(second, 0), work.prime - 1);
    }

    /** Chooses the polynomials that a new one needs a pair with, after Gebauer and Moeller. */
    private void choosePartners(int added) {
      states = roomy(states, added);
      multiples = roomy(multiples, EXPONENTS * added);
      for (int i = 0; i < added && i < states.length; i++) {
        states[i] = work.isGone(i) ? DROPPED : UNSEEN;
        noteMultiple(i, added);
      }
      for (int i = 0; i < added && i < states.length; i++) {
        if (states[i] == UNSEEN) {
          states[i] = isDisjoint(i, added) || !isCovered(i, added) ? CHOSEN : DROPPED;
        }
      }
    }

    private void addPairs(int added) {
      for (int i = 0; i < added && i < states.length; i++) {
        if (states[i] == CHOSEN && !isDisjoint(i, added)) {
          addPair(i, added);
        }
        if (leadDividesLead(added, i)) {
          work.remove(i);
        }
      }
    }

    private boolean isDisjoint(int first, int second) {
      for (int i = 0; i < EXPONENTS; i++) {
        if (work.lead(first, i) > 0 && work.lead(second, i) > 0) {
          return false;
        }
      }
      return true;
    }

    private boolean leadDividesLead(int first, int second) {
      for (int i = 0; i < EXPONENTS; i++) {
        if (work.lead(first, i) > work.lead(second, i)) {
          return false;
        }
      }
      return true;
    }

    /** Whether the multiple of another polynomial that is not dropped divides that of this one. */
    private boolean isCovered(int element, int added) {
      for (int i = 0; i < added && i < states.length; i++) {
        if (i != element && states[i] != DROPPED && multipleDivides(i, element)) {
          return true;
        }
      }
      return false;
    }

    private boolean multipleDivides(int first, int second) {
      for (int i = 0; i < EXPONENTS; i++) {
        if (multiple(first, i) > multiple(second, i)) {
          return false;
        }
      }
      return true;
    }

    private void noteMultiple(int element, int added) {
      int place = EXPONENTS * element;
      for (int i = 0; i < EXPONENTS && place >= 0 && place + i < multiples.length; i++) {
        multiples[place + i] = Math.max(work.lead(element, i), work.lead(added, i));
      }
    }

    /** An exponent of the least common multiple of a polynomial and the one that is added. */
    private int multiple(int element, int variable) {
      int place = EXPONENTS * element + variable;
      return place >= 0 && place < multiples.length ? multiples[place] : 0;
    }

    private void addPair(int first, int second) {
      if (pairCount < 0 || pairCount >= MOST_PAIRS) {
        return;
      }
      pairs = roomy(pairs, PAIR * (pairCount + 1));
      int pair = PAIR * pairCount;
      pairs[pair] = first;
      pairs[pair + 1] = second;
      int total = 0;
      for (int i = 0; i < EXPONENTS; i++) {
        int exponent = multiple(first, i);
        pairs[pair + LEAST + i] = exponent;
        total += exponent;
      }
      pairs[pair + TOTAL] = total;
      pairCount++;
    }

    private void dropCoveredPairs(int added) {
      for (int pair = PAIR * (pairCount - 1); pair >= 0; pair -= PAIR) {
        if (dividesMultiple(added, pair) && !givesMultiple(pairPart(pair, 0), added, pair)
            && !givesMultiple(pairPart(pair, 1), added, pair)) {
          dropPair(pair);
        }
      }
    }

    private boolean dividesMultiple(int element, int pair) {
      for (int i = 0; i < EXPONENTS; i++) {
        if (work.lead(element, i) > pairPart(pair, LEAST + i)) {
          return false;
        }
      }
      return true;
    }

    /** Whether two polynomials have the least common multiple of a pair. */
    private boolean givesMultiple(int first, int second, int pair) {
      for (int i = 0; i < EXPONENTS; i++) {
        if (Math.max(work.lead(first, i), work.lead(second, i)) != pairPart(pair, LEAST + i)) {
          return false;
        }
      }
      return true;
    }

    /** Leaves out the fourth variable again, and reduces what stands in the work to the basis. */
    private Stock reduced() {
      for (int i = 0; i < work.count; i++) {
        if (!work.isGone(i) && isMultipleOfAnother(i)) {
          work.remove(i);
        }
      }
      built.clear(work.prime, work.order);
      int element = leastAbove(-1);
      for (int i = 0; i < work.count && element >= 0; i++) {
        divider.begin(work.prime);
        divider.keepAside(work.termOf(element, 0));
        divider.insertTail(work, element, 0, 1);
        divider.divide(work, Divider.ANY_TOTAL);
        built.append(divider.rest, divider.restCount, work.leadTotal(element));
        element = leastAbove(work.key(element, 0));
      }
      return built.compact();
    }

    private boolean isMultipleOfAnother(int element) {
      for (int i = 0; i < work.count; i++) {
        if (i != element && !work.isGone(i) && leadDividesWithoutFourth(i, element)) {
          return true;
        }
      }
      return false;
    }

    private boolean leadDividesWithoutFourth(int first, int second) {
      return work.leadDivides(first, work.lead(second, 0), work.lead(second, 1), work.lead(second, 2),
          Divider.ANY_TOTAL);
    }

    /** The polynomial with the least leading monomial above one; -1 without one. */
    private int leastAbove(long key) {
      int least = -1;
      for (int i = 0; i < work.count; i++) {
        if (!work.isGone(i) && work.key(i, 0) > key && (least < 0 || work.key(i, 0) < work.key(least, 0))) {
          least = i;
        }
      }
      return least;
    }
  }
}
