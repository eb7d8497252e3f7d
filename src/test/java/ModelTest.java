import java.util.Random;

/**
 * Runs of 512 calls of all kinds, each answer and each exception held against the Model's: what
 * the calls do to one another, near the origin and at the ends of the room.
 */
public final class ModelTest {
  private static final int RUNS = 126;
  private static final int CALLS = 512;
  private static final long MOST = 1000000;

  // The unit of places and sizes, and the sides of pages; by turns.
  private static final long[] UNITS = {1, 1, 3, 40000, 62500, 100000};
  private static final int[][] SIDES = {{4, 3}, {1, 7}, {0, 65537}, {65536, 50000}, {1, 1},
      {30000, Integer.MIN_VALUE}, {62500, 62500}};
  private static final long[] ODD = {-1, -2, 24, 30, 31, 512, MOST, MOST + 1, -MOST, -MOST - 1,
      2 * MOST, 3 * MOST, Integer.MAX_VALUE, Integer.MIN_VALUE, 1L << 32, Long.MAX_VALUE,
      Long.MIN_VALUE};

  private final Random random;
  private final Due due;
  private final long unit;
  private final PartDrawings object;
  private final Model model;
  private int boxes;

  private ModelTest(Due due, int run) {
    this.due = due;
    random = new Random(run);
    unit = UNITS[run % UNITS.length];
    int[] sides = SIDES[run % SIDES.length];
    object = new PartDrawings(sides[0], sides[1]);
    model = new Model(sides[0], sides[1]);
  }

  public static void main(String[] args) {
    Due due = new Due("ModelTest");
    for (int run = 0; run < RUNS; run++) {
      new ModelTest(due, run).run("run " + run);
    }
    due.end();
  }

  private void run(String name) {
    // Some runs have few boxes, so that most of their calls find nothing there.
    int most = random.nextInt(4) == 0 ? random.nextInt(3) : 25;
    for (int i = 0; i < CALLS; i++) {
      int kind = i < 2 * most ? i % 2 : random.nextInt(24);
      change(name + ", call " + i, kind);
    }
  }

  private void change(String at, int kind) {
    long x = place();
    long y = place();
    long z = place();
    int b = box();
    if (kind == 0) {
      long w = size();
      long h = size();
      boxes = Math.min(24, boxes + 1);
      same(at + " box", () -> object.box(x, y, z, w, h), () -> model.box(x, y, z, w, h));
    } else if (kind == 1) {
      long d = size();
      same(at + " deep", () -> Due.bit(object.deep(b, d)), () -> model.deep(b, d));
    } else if (kind == 2) {
      same(at + " explode", () -> {
        object.explode(b, x, y, z);
        return 0;
      }, () -> model.explode(b, x, y, z));
    } else if (kind <= 6) {
      int view = oneOf(6);
      same(at + " draw", () -> object.draw(view), () -> model.draw(view));
    } else if (kind == 7) {
      same(at + " keep", () -> object.keep(), () -> model.keep());
    } else if (kind <= 9) {
      int other = box();
      int axis = oneOf(3);
      same(at + " measure", () -> object.measure(b, other, axis),
          () -> model.measure(b, other, axis));
    } else {
      ask(at, kind);
    }
  }

  private void ask(String at, int kind) {
    int k = oneOf(random.nextBoolean() ? 6 : 60);
    int what = oneOf(kind < 15 ? 5 : 2);
    if (kind <= 12) {
      same(at + " command", () -> object.command(k, what), () -> model.command(k, what));
    } else if (kind == 13) {
      same(at + " list", () -> object.list(k - 1, what), () -> model.list(k - 1, what));
    } else if (kind == 14 && what == 4) {
      same(at + " row", () -> object.row(k), () -> model.row(k));
    } else if (kind == 14) {
      same(at + " total", () -> object.total(what, k), () -> model.total(what, k));
    } else if (kind == 15) {
      same(at + " changed", () -> object.changed(k), () -> model.changed(k));
    } else if (kind <= 17) {
      int p = random.nextInt(4) == 0 ? random.nextInt() : k - 1;
      same(at + " page", () -> object.page(p, what), () -> model.page(p, what));
    } else if (kind == 18) {
      int b = box();
      int i = oneOf(16);
      same(at + " code", () -> object.code(b, i), () -> model.code(b, i));
    } else if (kind == 19) {
      same(at + " ink", () -> object.ink(what == 1), () -> model.ink(what == 1));
    } else {
      askPlace(at, kind < 22, what);
    }
  }

  private void askPlace(String at, boolean isSection, int what) {
    long one = place() + random.nextInt(2);
    long other = place();
    int view = oneOf(6);
    if (isSection) {
      same(at + " section", () -> object.section(view, one, what),
          () -> model.section(view, one, what));
    } else {
      same(at + " on", () -> object.on(one, other, what == 1), () -> model.on(one, other, what == 1));
    }
  }

  private void same(String call, Due.Call got, Due.Call want) {
    due.holds(call, Due.outcome(want), Due.outcome(got));
  }

  private boolean isOdd() {
    return random.nextInt(50) == 0;
  }

  private long odd() {
    return ODD[random.nextInt(ODD.length)];
  }

  private long place() {
    return isOdd() ? odd() : (random.nextInt(17) - 8) * unit;
  }

  private long size() {
    return isOdd() ? odd() : (1 + random.nextInt(9)) * unit;
  }

  private int box() {
    return isOdd() ? (int) odd() : random.nextInt(Math.max(1, boxes));
  }

  private int oneOf(int many) {
    return isOdd() ? (int) odd() : random.nextInt(many);
  }
}
