import java.math.BigInteger;
import java.util.ArrayList;
import java.util.Arrays;
import java.util.Comparator;
import java.util.HashMap;
import java.util.List;
import java.util.Map;
import java.util.NoSuchElementException;

/**
 * The document once more, as plainly and as slowly as it can be written, for tests to compare with. Reduced bases
 * alone are not made here: they are asked of the program, and proved by checkBasis.
 */
final class Model {
  record Mono(int a, int b, int c) {
    int at(int variable) {
      return variable == 0 ? a : variable == 1 ? b : c;
    }

    int degree() {
      return a + b + c;
    }

    Mono times(Mono o) {
      return new Mono(a + o.a, b + o.b, c + o.c);
    }

    boolean divides(Mono o) {
      return a <= o.a && b <= o.b && c <= o.c;
    }

    Mono under(Mono o) {
      return new Mono(o.a - a, o.b - b, o.c - c);
    }

    Mono join(Mono o) {
      return new Mono(Math.max(a, o.a), Math.max(b, o.b), Math.max(c, o.c));
    }

    boolean inRange() {
      return a <= 30 && b <= 30 && c <= 30;
    }

    Mono with(int variable, int e) {
      return new Mono(variable == 0 ? e : a, variable == 1 ? e : b, variable == 2 ? e : c);
    }
  }

  static final class Poly {
    final int ground;
    final Map<Mono, BigInteger> terms = new HashMap<>();

    Poly(int ground) {
      this.ground = ground;
    }

    void put(Mono m, BigInteger c) {
      BigInteger sum = terms.getOrDefault(m, BigInteger.ZERO).add(c);
      if (ground != 0) {
        sum = sum.mod(BigInteger.valueOf(ground));
      }
      if (sum.signum() == 0) {
        terms.remove(m);
      } else {
        terms.put(m, sum);
      }
    }

    Poly plus(Poly o, long factor) {
      Poly r = new Poly(ground);
      terms.forEach(r::put);
      o.terms.forEach((m, c) -> r.put(m, c.multiply(BigInteger.valueOf(factor))));
      return r;
    }

    Poly shifted(Mono by, BigInteger factor) {
      Poly r = new Poly(ground);
      terms.forEach((m, c) -> r.put(m.times(by), c.multiply(factor)));
      return r;
    }

    boolean same(Poly o) {
      return ground == o.ground && terms.equals(o.terms);
    }

    int degree() {
      return terms.keySet().stream().mapToInt(Mono::degree).max().orElse(-1);
    }

    int degreeIn(int v) {
      return terms.keySet().stream().mapToInt(m -> m.at(v)).max().orElse(-1);
    }

    List<Mono> sorted(char order) {
      List<Mono> l = new ArrayList<>(terms.keySet());
      l.sort((x, y) -> compare(order, y, x));
      return l;
    }

    Mono lead(char order) {
      return sorted(order).get(0);
    }
  }

  static int compare(char order, Mono x, Mono y) {
    if (order != 'l' && x.degree() != y.degree()) {
      return Integer.compare(x.degree(), y.degree());
    }
    if (order == 'r') {
      for (int v = 2; v >= 0; v--) {
        if (x.at(v) != y.at(v)) {
          return x.at(v) < y.at(v) ? 1 : -1;
        }
      }
      return 0;
    }
    for (int v = 0; v < 3; v++) {
      if (x.at(v) != y.at(v)) {
        return Integer.compare(x.at(v), y.at(v));
      }
    }
    return 0;
  }

  static final class Ideal {
    int prime;
    List<Poly> generators = new ArrayList<>();
    Map<Character, List<Poly>> bases = new HashMap<>();
  }

  record Rule(Mono mono, Poly poly, int variable, char sign) {
  }

  static final BigInteger LIMIT = BigInteger.valueOf(1000000000000L);
  static final Mono ONE = new Mono(0, 0, 0);

  final List<Poly> kept = new ArrayList<>();
  final List<Ideal> ideals = new ArrayList<>();
  final List<Rule> rules = new ArrayList<>();
  final List<Map<Integer, Character>> frames = new ArrayList<>(List.of(new HashMap<>()));
  char order = 'l';

  // ---- checks ----

  static boolean prime(int p) {
    return List.of(2, 3, 5, 7, 11, 13).contains(p);
  }

  static void need(boolean ok) {
    if (!ok) {
      throw new IllegalArgumentException();
    }
  }

  static void support(boolean ok) {
    if (!ok) {
      throw new UnsupportedOperationException();
    }
  }

  static void reckon(boolean ok) {
    if (!ok) {
      throw new ArithmeticException();
    }
  }

  static void exist(boolean ok) {
    if (!ok) {
      throw new NoSuchElementException();
    }
  }

  static void state(boolean ok) {
    if (!ok) {
      throw new IllegalStateException();
    }
  }

  Poly at(int n) {
    if (n < 0 || n >= kept.size()) {
      throw new IndexOutOfBoundsException();
    }
    return kept.get(n);
  }

  static void range(Poly p) {
    for (Map.Entry<Mono, BigInteger> e : p.terms.entrySet()) {
      reckon(e.getKey().inRange() && e.getValue().abs().compareTo(LIMIT) <= 0);
    }
  }

  int keep(Poly p) {
    for (int i = 0; i < kept.size(); i++) {
      if (kept.get(i).same(p)) {
        return i;
      }
    }
    state(kept.size() < 60);
    kept.add(p);
    return kept.size() - 1;
  }

  static void variableIs(int v) {
    need(v >= 0 && v < 3);
  }

  // ---- polynomials ----

  int constant(int ground, int value) {
    need(ground == 0 || prime(ground));
    Poly p = new Poly(ground);
    p.put(ONE, BigInteger.valueOf(value));
    return keep(p);
  }

  int variable(int ground, int v) {
    need(ground == 0 || prime(ground));
    variableIs(v);
    Poly p = new Poly(ground);
    p.put(ONE.with(v, 1), BigInteger.ONE);
    return keep(p);
  }

  int sum(int x, int y, int factor) {
    Poly p = at(x);
    Poly q = at(y);
    support(p.ground == q.ground);
    Poly r = p.plus(q, factor);
    range(r);
    return keep(r);
  }

  static Poly product(Poly p, Poly q) {
    Poly r = new Poly(p.ground);
    p.terms.forEach((m, c) -> q.terms.forEach((n, d) -> {
      reckon(m.times(n).inRange());
      if (p.ground == 0) {
        reckon(c.multiply(d).abs().compareTo(LIMIT) <= 0);
      }
      r.put(m.times(n), c.multiply(d));
    }));
    range(r);
    return r;
  }

  int multiply(int x, int y) {
    Poly p = at(x);
    Poly q = at(y);
    support(p.ground == q.ground);
    return keep(product(p, q));
  }

  static Poly one(int ground) {
    Poly p = new Poly(ground);
    p.put(ONE, BigInteger.ONE);
    return p;
  }

  static Poly raised(Poly p, int e) {
    Poly r = one(p.ground);
    for (int i = 0; i < e; i++) {
      r = product(r, p);
    }
    return r;
  }

  int power(int x, int e) {
    Poly p = at(x);
    need(e >= 0 && e <= 9);
    return keep(raised(p, e));
  }

  int polynomials() {
    return kept.size();
  }

  int ground(int x) {
    return at(x).ground;
  }

  int terms(int x) {
    return at(x).terms.size();
  }

  int degree(int x) {
    return at(x).degree();
  }

  int degreeIn(int x, int v) {
    Poly p = at(x);
    variableIs(v);
    return p.degreeIn(v);
  }

  long coefficientAt(int x, int i) {
    Poly p = at(x);
    exist(i >= 0 && i < p.terms.size());
    return p.terms.get(p.sorted(order).get(i)).longValueExact();
  }

  int exponentAt(int x, int i, int v) {
    Poly p = at(x);
    variableIs(v);
    exist(i >= 0 && i < p.terms.size());
    return p.sorted(order).get(i).at(v);
  }

  char setOrder(char o) {
    need(o == 'l' || o == 'd' || o == 'r');
    char before = order;
    order = o;
    return before;
  }

  int derive(int x, int v) {
    Poly p = at(x);
    variableIs(v);
    Poly r = new Poly(p.ground);
    p.terms.forEach((m, c) -> {
      if (m.at(v) > 0) {
        r.put(m.with(v, m.at(v) - 1), c.multiply(BigInteger.valueOf(m.at(v))));
      }
    });
    range(r);
    return keep(r);
  }

  int integrate(int x, int v) {
    Poly p = at(x);
    variableIs(v);
    Poly r = new Poly(p.ground);
    p.terms.forEach((m, c) -> {
      BigInteger e = BigInteger.valueOf(m.at(v) + 1);
      if (p.ground == 0) {
        support(c.mod(e).signum() == 0);
        r.put(m.with(v, m.at(v) + 1), c.divide(e));
      } else {
        BigInteger g = BigInteger.valueOf(p.ground);
        support(e.mod(g).signum() != 0);
        r.put(m.with(v, m.at(v) + 1), c.multiply(e.modInverse(g)));
      }
    });
    range(r);
    return keep(r);
  }

  int substitute(int x, int v, int y) {
    Poly p = at(x);
    Poly q = at(y);
    variableIs(v);
    support(p.ground == q.ground && p.ground != 0);
    Poly[] powers = new Poly[31];
    powers[0] = one(p.ground);
    for (int e = 1; e <= p.degreeIn(v); e++) {
      powers[e] = product(powers[e - 1], q);
    }
    Poly r = new Poly(p.ground);
    for (Map.Entry<Mono, BigInteger> t : p.terms.entrySet()) {
      Poly power = powers[t.getKey().at(v)].shifted(t.getKey().with(v, 0), t.getValue());
      range(power);
      r = r.plus(power, 1);
    }
    return keep(r);
  }

  int value(int x, int a, int b, int c) {
    Poly p = at(x);
    need(a >= 0 && a <= 99 && b >= 0 && b <= 99 && c >= 0 && c <= 99);
    support(p.ground != 0);
    BigInteger s = BigInteger.ZERO;
    for (Map.Entry<Mono, BigInteger> t : p.terms.entrySet()) {
      Mono m = t.getKey();
      s = s.add(t.getValue().multiply(BigInteger.valueOf(a).pow(m.a())).multiply(BigInteger.valueOf(b).pow(m.b()))
          .multiply(BigInteger.valueOf(c).pow(m.c())));
    }
    return s.mod(BigInteger.valueOf(p.ground)).intValue();
  }

  static BigInteger gcd(Poly p) {
    BigInteger g = BigInteger.ZERO;
    for (BigInteger c : p.terms.values()) {
      g = g.gcd(c);
    }
    return g;
  }

  long content(int x) {
    Poly p = at(x);
    support(p.ground == 0);
    return gcd(p).longValueExact();
  }

  int primitive(int x) {
    Poly p = at(x);
    support(p.ground == 0);
    if (p.terms.isEmpty()) {
      return x;
    }
    BigInteger g = gcd(p);
    BigInteger by = p.terms.get(p.lead('l')).signum() < 0 ? g.negate() : g;
    Poly r = new Poly(0);
    p.terms.forEach((m, c) -> r.put(m, c.divide(by)));
    return keep(r);
  }

  int modulo(int x, int q) {
    Poly p = at(x);
    need(prime(q));
    support(p.ground == 0);
    Poly r = new Poly(q);
    p.terms.forEach(r::put);
    return keep(r);
  }

  // ---- lines, as rows of coefficients without zeros at the end ----

  static boolean isLine(Poly p) {
    return p.ground != 0 && p.terms.keySet().stream().allMatch(m -> m.b() == 0 && m.c() == 0);
  }

  static int[] row(Poly p) {
    int[] r = new int[p.degree() + 1];
    p.terms.forEach((m, c) -> r[m.a()] = c.intValue());
    return r;
  }

  static Poly line(int[] r, int p) {
    Poly q = new Poly(p);
    for (int i = 0; i < r.length; i++) {
      q.put(new Mono(i, 0, 0), BigInteger.valueOf(r[i]));
    }
    return q;
  }

  static int[] trim(int[] r) {
    int n = r.length;
    while (n > 0 && r[n - 1] == 0) {
      n--;
    }
    return Arrays.copyOf(r, n);
  }

  static int inv(int a, int p) {
    return BigInteger.valueOf(a).modInverse(BigInteger.valueOf(p)).intValue();
  }

  static int[][] divide(int[] a, int[] b, int p) {
    int[] rest = a.clone();
    int[] q = new int[Math.max(0, a.length - b.length + 1)];
    for (int s = a.length - b.length; s >= 0; s--) {
      int f = rest[s + b.length - 1] * inv(b[b.length - 1], p) % p;
      q[s] = f;
      for (int i = 0; i < b.length; i++) {
        rest[s + i] = Math.floorMod(rest[s + i] - f * b[i], p);
      }
    }
    return new int[][] {trim(q), trim(rest)};
  }

  static int[] times(int[] a, int[] b, int p) {
    int[] r = new int[Math.max(0, a.length + b.length - 1)];
    for (int i = 0; i < a.length; i++) {
      for (int j = 0; j < b.length; j++) {
        r[i + j] = (r[i + j] + a[i] * b[j]) % p;
      }
    }
    return trim(r);
  }

  static int[] monic(int[] a, int p) {
    return a.length == 0 ? a : times(a, new int[] {inv(a[a.length - 1], p)}, p);
  }

  static int[] gcd(int[] a, int[] b, int p) {
    return b.length == 0 ? monic(a, p) : gcd(b, divide(a, b, p)[1], p);
  }

  record Part(int[] row, int times) {
  }

  static List<Part> split(int[] a, int p) {
    int[] left = monic(a, p);
    List<Part> parts = new ArrayList<>();
    for (int d = 1; 2 * d <= left.length - 1; d++) {
      int many = (int) Math.pow(p, d);
      for (int n = 0; n < many; n++) {
        int[] c = new int[d + 1];
        c[d] = 1;
        int x = n;
        for (int i = 0; i < d; i++, x /= p) {
          c[i] = x % p;
        }
        int times = 0;
        while (left.length > d && divide(left, c, p)[1].length == 0) {
          left = divide(left, c, p)[0];
          times++;
        }
        if (times > 0) {
          parts.add(new Part(c, times));
        }
      }
    }
    if (left.length > 1) {
      parts.add(new Part(left, 1));
    }
    Comparator<Part> rising = Comparator.comparingInt(x -> x.row.length);
    parts.sort(rising.thenComparing((x, y) -> {
      for (int i = x.row.length - 1; i >= 0; i--) {
        if (x.row[i] != y.row[i]) {
          return Integer.compare(x.row[i], y.row[i]);
        }
      }
      return 0;
    }));
    return parts;
  }

  void lines(Poly p, Poly q) {
    support(isLine(p) && isLine(q) && p.ground == q.ground);
  }

  int quotient(int x, int y, int which) {
    Poly p = at(x);
    Poly q = at(y);
    lines(p, q);
    reckon(!q.terms.isEmpty());
    return keep(line(divide(row(p), row(q), p.ground)[which], p.ground));
  }

  int divisor(int x, int y) {
    Poly p = at(x);
    Poly q = at(y);
    lines(p, q);
    return keep(line(gcd(row(p), row(q), p.ground), p.ground));
  }

  List<Part> parts(int x) {
    Poly p = at(x);
    support(isLine(p) && p.degree() >= 1 && p.degree() <= 6);
    return split(row(p), p.ground);
  }

  int factors(int x) {
    return parts(x).size();
  }

  int factorAt(int x, int i) {
    List<Part> l = parts(x);
    exist(i >= 0 && i < l.size());
    return keep(line(l.get(i).row, at(x).ground));
  }

  int multiplicity(int x, int i) {
    List<Part> l = parts(x);
    exist(i >= 0 && i < l.size());
    return l.get(i).times;
  }

  boolean isIrreducible(int x) {
    List<Part> l = parts(x);
    return l.size() == 1 && l.get(0).times == 1;
  }

  static int valueAt(int[] a, int v, int p) {
    int s = 0;
    for (int i = a.length - 1; i >= 0; i--) {
      s = (s * v + a[i]) % p;
    }
    return s;
  }

  int roots(int x) {
    Poly p = at(x);
    support(isLine(p));
    reckon(!p.terms.isEmpty());
    int n = 0;
    for (int v = 0; v < p.ground; v++) {
      n += valueAt(row(p), v, p.ground) == 0 ? 1 : 0;
    }
    return n;
  }

  static int determinant(int[][] m, int p) {
    int n = m.length;
    int det = 1;
    for (int c = 0; c < n; c++) {
      int r = c;
      while (r < n && m[r][c] == 0) {
        r++;
      }
      if (r == n) {
        return 0;
      }
      if (r != c) {
        int[] t = m[r];
        m[r] = m[c];
        m[c] = t;
        det = p - det;
      }
      det = det * m[c][c] % p;
      for (int i = c + 1; i < n; i++) {
        int f = m[i][c] * inv(m[c][c], p) % p;
        for (int j = c; j < n; j++) {
          m[i][j] = Math.floorMod(m[i][j] - f * m[c][j], p);
        }
      }
    }
    return det % p;
  }

  int resultant(int x, int y) {
    Poly p = at(x);
    Poly q = at(y);
    lines(p, q);
    reckon(!p.terms.isEmpty() && !q.terms.isEmpty());
    int[] f = row(p);
    int[] g = row(q);
    int m = f.length - 1;
    int n = g.length - 1;
    int[][] s = new int[m + n][m + n];
    for (int i = 0; i < n; i++) {
      for (int j = 0; j <= m; j++) {
        s[i][i + j] = f[m - j];
      }
    }
    for (int i = 0; i < m; i++) {
      for (int j = 0; j <= n; j++) {
        s[n + i][i + j] = g[n - j];
      }
    }
    return determinant(s, p.ground);
  }

  int series(int x, int y, int index) {
    Poly p = at(x);
    Poly q = at(y);
    lines(p, q);
    need(index >= 0 && index <= 30);
    int[] a = Arrays.copyOf(row(p), 31);
    int[] b = Arrays.copyOf(row(q), 31);
    reckon(b[0] != 0);
    int[] c = new int[31];
    for (int k = 0; k <= index; k++) {
      int s = a[k];
      for (int j = 1; j <= k; j++) {
        s -= b[j] * c[k - j];
      }
      c[k] = Math.floorMod(s, p.ground) * inv(b[0], p.ground) % p.ground;
    }
    return c[index];
  }

  int limit(int x, int y, int v) {
    Poly p = at(x);
    Poly q = at(y);
    lines(p, q);
    need(v >= 0 && v < p.ground);
    reckon(!q.terms.isEmpty());
    int[] a = row(p);
    int[] b = row(q);
    int[] step = trim(new int[] {Math.floorMod(-v, p.ground), 1});
    while (valueAt(a, v, p.ground) == 0 && valueAt(b, v, p.ground) == 0) {
      a = divide(a, step, p.ground)[0];
      b = divide(b, step, p.ground)[0];
    }
    int below = valueAt(b, v, p.ground);
    exist(below != 0);
    return valueAt(a, v, p.ground) * inv(below, p.ground) % p.ground;
  }

  /** Solves for all partial numerators at once, as unknown coefficients of a linear system. */
  int partial(int x, int y, int index) {
    Poly p = at(x);
    Poly q = at(y);
    support(isLine(q) && q.degree() >= 1 && q.degree() <= 6 && isLine(p) && p.ground == q.ground);
    List<Part> parts = split(row(q), q.ground);
    exist(index >= 0 && index < parts.size());
    int g = q.ground;
    int n = q.degree();
    int[] rest = Arrays.copyOf(divide(row(p), row(q), g)[1], n);
    int[][] m = new int[n][n + 1];
    int column = 0;
    int from = 0;
    int to = 0;
    for (int k = 0; k < parts.size(); k++) {
      int[] below = {1};
      for (int i = 0; i < parts.get(k).times; i++) {
        below = times(below, parts.get(k).row, g);
      }
      int[] others = divide(row(q), below, g)[0];
      if (k == index) {
        from = column;
        to = column + below.length - 1;
      }
      for (int d = 0; d < below.length - 1; d++, column++) {
        for (int i = 0; i < others.length; i++) {
          m[i + d][column] = others[i];
        }
      }
    }
    for (int i = 0; i < n; i++) {
      m[i][n] = rest[i];
    }
    for (int c = 0; c < n; c++) {
      int r = c;
      while (m[r][c] == 0) {
        r++;
      }
      int[] t = m[r];
      m[r] = m[c];
      m[c] = t;
      int f = inv(m[c][c], g);
      for (int j = 0; j <= n; j++) {
        m[c][j] = m[c][j] * f % g;
      }
      for (int i = 0; i < n; i++) {
        int h = m[i][c];
        for (int j = 0; j <= n && i != c; j++) {
          m[i][j] = Math.floorMod(m[i][j] - h * m[c][j], g);
        }
      }
    }
    int[] numerator = new int[to - from];
    for (int i = from; i < to; i++) {
      numerator[i - from] = m[i][n];
    }
    return keep(line(numerator, g));
  }

  // ---- ideals ----

  Ideal ideal(int n) {
    exist(n >= 0 && n < ideals.size());
    return ideals.get(n);
  }

  int addIdeal(int p) {
    need(prime(p));
    state(ideals.size() < 5);
    Ideal i = new Ideal();
    i.prime = p;
    ideals.add(i);
    return ideals.size() - 1;
  }

  int addGenerator(int n, int x) {
    Ideal i = ideal(n);
    Poly p = at(x);
    support(p.ground == i.prime && p.degree() <= 3 && p.terms.size() <= 4);
    state(i.generators.size() < 3);
    i.generators.add(p);
    i.bases.clear();
    return i.generators.size();
  }

  static Poly reduce(Poly p, List<Poly> by, char order) {
    Poly left = p.plus(new Poly(p.ground), 1);
    Poly done = new Poly(p.ground);
    List<Mono> leads = new ArrayList<>();
    for (Poly b : by) {
      leads.add(b.lead(order));
    }
    while (!left.terms.isEmpty()) {
      Mono m = left.lead(order);
      BigInteger c = left.terms.get(m);
      int found = -1;
      for (int i = 0; i < by.size() && found < 0; i++) {
        found = leads.get(i).divides(m) ? i : -1;
      }
      if (found < 0) {
        done.put(m, c);
        left.terms.remove(m);
      } else {
        BigInteger f = c.multiply(by.get(found).terms.get(leads.get(found))
            .modInverse(BigInteger.valueOf(p.ground))).negate();
        left = left.plus(by.get(found).shifted(leads.get(found).under(m), f), 1);
      }
    }
    return done;
  }

  static Poly spair(Poly p, Poly q, char order) {
    Mono l = p.lead(order).join(q.lead(order));
    BigInteger g = BigInteger.valueOf(p.ground);
    Poly a = p.shifted(p.lead(order).under(l), p.terms.get(p.lead(order)).modInverse(g));
    Poly b = q.shifted(q.lead(order).under(l), q.terms.get(q.lead(order)).modInverse(g));
    return a.plus(b, -1);
  }

  static boolean coprime(Mono x, Mono y) {
    return x.join(y).degree() == x.degree() + y.degree();
  }

  /** Polynomials that are in the ideal and tell for all others whether they are. */
  static List<Poly> naiveBasis(List<Poly> generators) {
    List<Poly> g = new ArrayList<>();
    for (Poly p : generators) {
      if (!p.terms.isEmpty()) {
        g.add(p);
      }
    }
    List<int[]> pairs = new ArrayList<>();
    for (int j = 0; j < g.size(); j++) {
      for (int i = 0; i < j; i++) {
        pairs.add(new int[] {i, j});
      }
    }
    while (!pairs.isEmpty()) {
      int best = 0;
      for (int i = 1; i < pairs.size(); i++) {
        Mono x = g.get(pairs.get(i)[0]).lead('r').join(g.get(pairs.get(i)[1]).lead('r'));
        Mono y = g.get(pairs.get(best)[0]).lead('r').join(g.get(pairs.get(best)[1]).lead('r'));
        best = compare('r', x, y) < 0 ? i : best;
      }
      int[] pair = pairs.remove(best);
      Poly p = g.get(pair[0]);
      Poly q = g.get(pair[1]);
      if (coprime(p.lead('r'), q.lead('r'))) {
        continue;
      }
      Poly rest = reduce(spair(p, q, 'r'), g, 'r');
      if (!rest.terms.isEmpty()) {
        for (int i = 0; i < g.size(); i++) {
          pairs.add(new int[] {i, g.size()});
        }
        g.add(rest);
      }
    }
    return g;
  }

  /** Proves that a list is the reduced basis of the ideal; the first thing that is not so, or null. */
  static String checkBasis(List<Poly> basis, Ideal ideal, char order) {
    for (int i = 0; i < basis.size(); i++) {
      Poly p = basis.get(i);
      if (!p.terms.get(p.lead(order)).equals(BigInteger.ONE)) {
        return "not monic";
      }
      if (i > 0 && compare(order, basis.get(i - 1).lead(order), p.lead(order)) >= 0) {
        return "leading monomials do not rise";
      }
      for (int j = 0; j < basis.size(); j++) {
        for (Mono m : p.terms.keySet()) {
          if (i != j && basis.get(j).lead(order).divides(m)) {
            return "not reduced";
          }
        }
      }
      for (int j = 0; j < i; j++) {
        if (!reduce(spair(p, basis.get(j), order), basis, order).terms.isEmpty()) {
          return "a pair does not reduce to nothing";
        }
      }
    }
    for (Poly p : ideal.generators) {
      if (!reduce(p, basis, order).terms.isEmpty()) {
        return "a generator is not in it";
      }
    }
    List<Poly> naive = naiveBasis(ideal.generators);
    for (Poly p : basis) {
      if (!reduce(p, naive, 'r').terms.isEmpty()) {
        return "a polynomial of it is not in the ideal";
      }
    }
    return null;
  }

  int normalForm(List<Poly> basis, int n, int x) {
    Ideal i = ideal(n);
    Poly p = at(x);
    support(p.ground == i.prime);
    Poly r = reduce(p, basis, order);
    range(r);
    return keep(r);
  }

  boolean isIn(List<Poly> basis, int n, int x) {
    Ideal i = ideal(n);
    Poly p = at(x);
    support(p.ground == i.prime);
    return reduce(p, basis, order).terms.isEmpty();
  }

  int size(List<Poly> basis) {
    int reach = 40;
    int[] bound = {-1, -1, -1};
    for (Poly p : basis) {
      Mono m = p.lead(order);
      for (int v = 0; v < 3; v++) {
        if (m.at(v) == m.degree()) {
          bound[v] = bound[v] < 0 ? m.at(v) : Math.min(bound[v], m.at(v));
        }
      }
    }
    exist(bound[0] >= 0 && bound[1] >= 0 && bound[2] >= 0);
    int n = 0;
    for (int a = 0; a < Math.min(bound[0], reach); a++) {
      for (int b = 0; b < Math.min(bound[1], reach); b++) {
        for (int c = 0; c < Math.min(bound[2], reach); c++) {
          Mono m = new Mono(a, b, c);
          n += basis.stream().noneMatch(p -> p.lead(order).divides(m)) ? 1 : 0;
        }
      }
    }
    return n;
  }

  // ---- rules and frames ----

  static boolean isSign(char s) {
    return s == '+' || s == '-' || s == '0';
  }

  int addRule(int a, int b, int c, int x, int v, char sign) {
    Poly p = at(x);
    need(a >= 0 && b >= 0 && c >= 0);
    long degree = (long) a + b + c;
    need(degree >= 1 && degree <= 6);
    need(v >= -1 && v < 3);
    need(v == -1 || isSign(sign));
    support(p.ground != 0);
    state(rules.size() < 8);
    rules.add(new Rule(new Mono(a, b, c), p, v, sign));
    return rules.size() - 1;
  }

  char sign(int v) {
    variableIs(v);
    for (Map<Integer, Character> f : frames) {
      if (f.containsKey(v)) {
        return f.get(v);
      }
    }
    return '?';
  }

  int assume(int v, char s) {
    variableIs(v);
    need(isSign(s));
    state(sign(v) == '?');
    frames.get(frames.size() - 1).put(v, s);
    return frames.stream().mapToInt(Map::size).sum();
  }

  int openFrame() {
    state(frames.size() < 6);
    frames.add(new HashMap<>());
    return frames.size();
  }

  int closeFrame() {
    state(frames.size() > 1);
    return frames.remove(frames.size() - 1).size();
  }

  Poly rewritten;

  int steps(int x) {
    Poly p = at(x);
    support(p.ground != 0);
    Poly now = p;
    for (int n = 0;; n++) {
      Mono found = null;
      Rule used = null;
      for (Mono m : now.sorted(order)) {
        for (Rule r : rules) {
          boolean usable = r.poly.ground == p.ground && (r.variable < 0 || sign(r.variable) == r.sign);
          if (used == null && usable && r.mono.divides(m)) {
            used = r;
            found = m;
          }
        }
      }
      if (used == null) {
        rewritten = now;
        return n;
      }
      reckon(n < 50);
      BigInteger c = now.terms.get(found);
      Poly next = now.plus(new Poly(p.ground), 1);
      next.terms.remove(found);
      next = next.plus(used.poly.shifted(used.mono.under(found), c), 1);
      range(next);
      now = next;
    }
  }

  int rewrite(int x) {
    steps(x);
    return keep(rewritten);
  }

  // ---- over all ----

  float lineShare() {
    reckon(!kept.isEmpty());
    return (float) kept.stream().filter(Model::isLine).count() / (float) kept.size();
  }

  double meanTerms() {
    reckon(!kept.isEmpty());
    return (double) kept.stream().mapToInt(p -> p.terms.size()).sum() / (double) kept.size();
  }
}
