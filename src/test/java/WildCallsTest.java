import java.util.Random;

/**
 * Long runs of calls with any numbers: nothing but the exceptions of the face is thrown, and a call
 * that throws changes nothing (a second object, which is spared those calls, answers alike).
 */
public final class WildCallsTest {
  private static final int RUNS = 400;
  private static final int CALLS = 512;
  private static final String STATE = "IllegalStateException";
  private static final String INDEX = "IndexOutOfBoundsException";
  private static final String ARGUMENT = "IllegalArgumentException";
  private static final String[] NAMES = {"box", "deep", "explode", "draw", "command", "on", "ink",
      "measure", "row", "total", "section", "list", "page", "code", "keep", "changed"};
  private static final String[] THROWN = {STATE + ARGUMENT, INDEX + ARGUMENT, INDEX + ARGUMENT,
      ARGUMENT, STATE + INDEX, STATE, STATE, INDEX + STATE + ARGUMENT, INDEX, ARGUMENT, ARGUMENT,
      INDEX + ARGUMENT, STATE + INDEX + ARGUMENT, INDEX + ARGUMENT, STATE, STATE + ARGUMENT};
  private static final long[] EDGES = {0, 1, -1, 2, 23, 24, 30, 1000000, 1000001, -1000000, -1000001,
      2000000, Integer.MAX_VALUE, Integer.MIN_VALUE, Long.MAX_VALUE, Long.MIN_VALUE, 1L << 32};

  private final Random random = new Random(17);

  public static void main(String[] args) {
    Due due = new Due("WildCallsTest");
    WildCallsTest test = new WildCallsTest();
    for (int i = 0; i < RUNS; i++) {
      test.run(due, i);
    }
    due.end();
  }

  private void run(Due due, int number) {
    int width = (int) number(number);
    int height = (int) number(number);
    PartDrawings x = new PartDrawings(width, height);
    PartDrawings y = new PartDrawings(width, height);
    for (int i = 0; i < CALLS; i++) {
      int method = random.nextInt(NAMES.length);
      long[] n = {number(number), number(number), number(number), number(number), number(number)};
      String got = Due.outcome(() -> call(x, method, n));
      String told = "run " + number + ", call " + i + ", " + NAMES[method];
      if (got.startsWith("throws.")) {
        boolean isOfTheFace = THROWN[method].contains(got.substring("throws.".length()));
        due.holds(told, "one of " + THROWN[method], isOfTheFace ? "one of " + THROWN[method] : got);
      } else {
        due.holds(told, got, Due.outcome(() -> call(y, method, n)));
      }
    }
  }

  // Small numbers mostly, so that runs get somewhere; edges more often in some runs than in others.
  private long number(int run) {
    if (random.nextInt(40) < run % 8) {
      return EDGES[random.nextInt(EDGES.length)];
    }
    return run % 3 == 0 ? random.nextInt(60) - 5 : random.nextInt(6);
  }

  private static long call(PartDrawings x, int method, long[] n) {
    int a = (int) n[0];
    int b = (int) n[1];
    switch (method) {
      case 0: return x.box(n[0], n[1], n[2], n[3], n[4]);
      case 1: return Due.bit(x.deep(a, n[1]));
      case 2: x.explode(a, n[1], n[2], n[3]); return 0;
      case 3: return x.draw(a);
      case 4: return x.command(a, b);
      case 5: return x.on(n[0], n[1], n[2] % 2 == 0);
      case 6: return x.ink(n[0] % 2 == 0);
      case 7: return x.measure(a, b, (int) n[2]);
      case 8: return x.row(a);
      case 9: return x.total(a, b);
      case 10: return x.section(a, n[1], (int) n[2]);
      case 11: return x.list(a, b);
      case 12: return x.page(a, b);
      case 13: return x.code(a, b);
      case 14: return x.keep();
      default: return x.changed(a);
    }
  }
}
