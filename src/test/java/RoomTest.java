import java.lang.management.ManagementFactory;
import java.util.Random;

/**
 * All calls of one run share a room of some 7.3 million fields and elements, and nothing in it is given back. A run of
 * the dearest calls must stay far within it, and must end soon.
 */
public final class RoomTest {
  /** Of the least size an element can have here, four bytes, that many fill the room. */
  private static final long ROOM = 7300000L * 4;

  private static long used() {
    return ((com.sun.management.ThreadMXBean) ManagementFactory.getThreadMXBean())
        .getThreadAllocatedBytes(Thread.currentThread().getId());
  }

  public static void main(String[] args) {
    boolean fits = true;
    for (int prime : new int[] {2, 13}) {
      fits &= fits("dense polynomials over " + prime, () -> dense(prime));
      fits &= fits("ideals over " + prime, () -> ideals(prime));
      fits &= fits("lines over " + prime, () -> lines(prime));
    }
    if (!fits) {
      System.exit(1);
    }
  }

  private static boolean fits(String what, Runnable run) {
    run.run();
    long before = used();
    long start = System.nanoTime();
    run.run();
    long bytes = used() - before;
    long millis = (System.nanoTime() - start) / 1000000;
    boolean fits = bytes < ROOM && millis < 60000;
    System.out.println("RoomTest: " + what + " took " + bytes + " bytes and " + millis + " ms"
        + (fits ? "" : ", which is too much"));
    return fits;
  }

  private static int sumOfPowers(Polyforge x, int prime, int variable) {
    int v = x.variable(prime, variable);
    int one = x.constant(prime, 1);
    int sum = one;
    int power = v;
    for (int i = 0; i < 4; i++) {
      sum = x.multiply(sum, x.add(power, one));
      power = x.multiply(power, power);
    }
    return sum;
  }

  /** Polynomials with all monomials up to the exponent 30, as many as are kept, divided in each order. */
  private static void dense(int prime) {
    Polyforge x = new Polyforge();
    int half = x.multiply(x.multiply(sumOfPowers(x, prime, 0), sumOfPowers(x, prime, 1)), sumOfPowers(x, prime, 2));
    int all = x.multiply(half, half);
    x.addIdeal(prime);
    x.addGenerator(0, x.subtract(x.variable(prime, 0), x.power(x.variable(prime, 1), 3)));
    x.addGenerator(0, x.add(x.power(x.variable(prime, 2), 3), x.variable(prime, 0)));
    x.addRule(1, 1, 0, x.variable(prime, 2), -1, ' ');
    for (int calls = 0; calls < 200; calls++) {
      x.setOrder("ldr".charAt(calls % 3));
      if (x.polynomials() < 60) {
        all = x.add(all, x.polynomials() % 2 == 0 ? x.variable(prime, calls % 3) : half);
      }
      try {
        if (calls % 4 == 0) {
          x.isIn(0, all);
        } else if (calls % 4 == 1) {
          x.normalForm(0, all);
        } else if (calls % 4 == 2) {
          x.multiply(half, half);
        } else {
          x.rewrite(all);
        }
      } catch (ArithmeticException | IllegalStateException e) {
        continue;
      }
    }
  }

  /** Five ideals with three generators each, and their bases in each order after each generator. */
  private static void ideals(int prime) {
    Random random = new Random(prime);
    Polyforge x = new Polyforge();
    int[] cubes = new int[20];
    for (int i = 0; i < cubes.length; i++) {
      int p = x.variable(prime, random.nextInt(3));
      for (int j = random.nextInt(3); j > 0; j--) {
        p = x.multiply(p, x.variable(prime, random.nextInt(3)));
      }
      cubes[i] = p;
    }
    int generators = 0;
    for (int ideal = 0; ideal < 5; ideal++) {
      x.addIdeal(prime);
    }
    for (int calls = 0; calls < 500; calls++) {
      x.setOrder("ldr".charAt(calls % 3));
      if (calls % 9 == 0 && generators < 15 && x.polynomials() < 58) {
        int p = x.add(cubes[random.nextInt(20)], cubes[random.nextInt(20)]);
        int q = x.add(p, cubes[random.nextInt(20)]);
        x.addGenerator(generators % 5, q);
        generators++;
      }
      x.basis(calls % 5);
      x.isSound();
    }
  }

  /** As many lines of the degree 6 as are kept, all taken apart by each check. */
  private static void lines(int prime) {
    Polyforge x = new Polyforge();
    int six = x.power(x.variable(prime, 0), 6);
    for (int i = 0; x.polynomials() < 60; i++) {
      six = x.add(six, x.multiply(x.variable(prime, 0), x.constant(prime, i)));
      six = x.add(six, i % 7 == 6 ? x.power(x.variable(prime, 0), 1 + i % 5) : x.constant(prime, 1));
      if (prime == 2 && i > 20) {
        break;
      }
    }
    for (int calls = 0; calls < 400; calls++) {
      x.isSound();
    }
  }
}
