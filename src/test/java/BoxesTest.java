/** Promises 1 to 4: a new object, box, deep, explode. */
public final class BoxesTest {
  private static final Class<IllegalStateException> STATE = IllegalStateException.class;
  private static final Class<IllegalArgumentException> ARGUMENT = IllegalArgumentException.class;
  private static final Class<IndexOutOfBoundsException> INDEX = IndexOutOfBoundsException.class;
  private static final long[] WRONG_PLACES = {-1000001, 1000001, Long.MIN_VALUE, Long.MAX_VALUE,
      1L << 32, -(1L << 32)};
  private static final long[] WRONG_SIZES = {0, -1, 1000001, Long.MIN_VALUE, Long.MAX_VALUE,
      (1L << 32) + 1};

  public static void main(String[] args) {
    Due due = new Due("BoxesTest");
    pageSizes(due);
    boxNumbers(due);
    boxLimits(due);
    boxOrderOfExceptions(due);
    depth(due);
    exploding(due);
    explodingLimits(due);
    drawnUntil(due);
    due.end();
  }

  // A box of 200000 x 300000: the pages needed tell the width and the height.
  private static void pageSizes(Due due) {
    int[][] sizes = {{1000, 1000, 60000}, {65536, 65536, 20}, {65537, 65537, 20},
        {Integer.MAX_VALUE, Integer.MAX_VALUE, 20}, {65536, 1, 1200000}, {65536, 0, 1200000},
        {65536, -1, 1200000}, {65536, Integer.MIN_VALUE, 1200000}, {1, 65536, 1000000},
        {0, 65536, 1000000}, {Integer.MIN_VALUE, 65536, 1000000}};
    for (int[] s : sizes) {
      PartDrawings x = new PartDrawings(s[0], s[1]);
      x.box(0, 0, 0, 200000, 300000);
      x.draw(0);
      due.is("pages of " + s[0] + ", " + s[1], s[2], () -> x.page(PartDrawings.NONE, 0));
    }
  }

  private static void boxNumbers(Due due) {
    PartDrawings x = new PartDrawings(10, 10);
    for (int i = 0; i < 24; i++) {
      int n = i;
      due.is("box " + n, n, () -> x.box(n, n, n, 1 + n, 1));
    }
    due.fails("box 24", STATE, () -> x.box(0, 0, 0, 1, 1));
    due.is("the first depth", 0, () -> Due.bit(x.deep(23, 1)));
    due.is("w of the last one", 24, () -> x.list(0, 0));
  }

  private static void boxLimits(Due due) {
    PartDrawings x = new PartDrawings(10, 10);
    for (long p : WRONG_PLACES) {
      due.fails("box x " + p, ARGUMENT, () -> x.box(p, 0, 0, 1, 1));
      due.fails("box y " + p, ARGUMENT, () -> x.box(0, p, 0, 1, 1));
      due.fails("box z " + p, ARGUMENT, () -> x.box(0, 0, p, 1, 1));
    }
    for (long s : WRONG_SIZES) {
      due.fails("box w " + s, ARGUMENT, () -> x.box(0, 0, 0, s, 1));
      due.fails("box h " + s, ARGUMENT, () -> x.box(0, 0, 0, 1, s));
    }
    due.is("no box yet", 0, () -> x.list(-1, 0));
    due.is("least", 0, () -> x.box(-1000000, -1000000, -1000000, 1, 1));
    due.is("most", 1, () -> x.box(1000000, 1000000, 1000000, 1000000, 1000000));
    due.is("two boxes", 2, () -> x.list(-1, 0));
  }

  private static void boxOrderOfExceptions(Due due) {
    PartDrawings x = new PartDrawings(10, 10);
    for (int i = 0; i < 24; i++) {
      x.box(i, 0, 0, 1, 1);
    }
    x.draw(0);
    due.fails("box 24, wrong too", STATE, () -> x.box(1000001, 0, 0, 0, 0));
    due.is("still drawn: 2 across, 25 up", 27, () -> x.keep());
  }

  private static void depth(Due due) {
    PartDrawings x = new PartDrawings(10, 10);
    due.fails("deep of none", INDEX, () -> Due.bit(x.deep(0, 1)));
    x.box(0, 0, 0, 5, 6);
    due.fails("deep -1", INDEX, () -> Due.bit(x.deep(-1, 1)));
    due.fails("deep 1", INDEX, () -> Due.bit(x.deep(1, 1)));
    due.fails("deep, both wrong", INDEX, () -> Due.bit(x.deep(1, 0)));
    due.fails("deep far off", INDEX, () -> Due.bit(x.deep(Integer.MAX_VALUE, 1)));
    for (long s : WRONG_SIZES) {
      due.fails("deep " + s, ARGUMENT, () -> Due.bit(x.deep(0, s)));
    }
    due.is("still 1", 1, () -> x.list(0, 2));
    due.is("deep 4", 1, () -> Due.bit(x.deep(0, 4)));
    due.is("deep 4 again", 0, () -> Due.bit(x.deep(0, 4)));
    due.is("deep 1000000", 1, () -> Due.bit(x.deep(0, 1000000)));
    due.is("now the greatest", 1000000, () -> x.list(0, 0));
  }

  private static void exploding(Due due) {
    PartDrawings x = new PartDrawings(10, 10);
    x.box(1, 2, 3, 5, 6);
    x.box(0, 0, 0, 1, 1);
    due.done("explode", () -> x.explode(0, 10, -20, 30));
    due.is("on x", 0, () -> x.measure(0, 1, 0));
    due.is("on y", 1, () -> x.measure(0, 1, 1));
    due.is("on z", 2, () -> x.measure(0, 1, 2));
    due.is("x", 11, () -> x.total(0, 0));
    due.is("y", 18, () -> x.total(1, 0));
    due.is("z", 33, () -> x.total(2, 0));
    due.done("explode the other one", () -> x.explode(1, 500, 500, 500));
    due.is("measures stay", 11, () -> x.total(0, 0));
  }

  private static void explodingLimits(Due due) {
    PartDrawings x = new PartDrawings(10, 10);
    due.failsDoing("explode of none", INDEX, () -> x.explode(0, 0, 0, 0));
    x.box(1000000, -1000000, 0, 5, 6);
    x.box(0, 0, 0, 1, 1);
    due.failsDoing("explode -1", INDEX, () -> x.explode(-1, 0, 0, 0));
    due.failsDoing("explode 2", INDEX, () -> x.explode(2, Long.MAX_VALUE, 0, 0));
    long[][] wrong = {{1, 0, 0}, {-2000001, 0, 0}, {0, -1, 0}, {0, 2000001, 0}, {0, 0, 1000001},
        {0, 0, -1000001}, {Long.MAX_VALUE, 0, 0}, {Long.MIN_VALUE, 0, 0}, {0, Long.MAX_VALUE, 0},
        {0, Long.MIN_VALUE, 0}, {0, 0, Long.MAX_VALUE}, {0, 0, Long.MIN_VALUE},
        {1L << 32, 0, 0}, {0, 0, 1L << 32}, {-5, 5, 1000001}, {-5, -1, 5}};
    for (long[] w : wrong) {
      due.failsDoing("explode by " + w[0] + ", " + w[1] + ", " + w[2], ARGUMENT,
          () -> x.explode(0, w[0], w[1], w[2]));
    }
    x.measure(0, 1, 0);
    x.measure(0, 1, 1);
    due.is("x stays", 1000000, () -> x.total(0, 0));
    due.is("y stays", 1000000, () -> x.total(1, 0));
    due.is("z stays", -1, () -> x.measure(0, 1, 2));
    due.done("from end to end", () -> x.explode(0, -2000000, 2000000, -1000000));
    x.draw(0);
    due.is("its place across", -1000000, () -> x.command(x.draw(0) - 4, 1));
  }

  private static void drawnUntil(Due due) {
    PartDrawings x = new PartDrawings(10, 10);
    x.box(0, 0, 0, 5, 5);
    x.draw(0);
    due.fails("a wrong box", ARGUMENT, () -> x.box(0, 0, 0, 0, 1));
    due.fails("a wrong depth", ARGUMENT, () -> Due.bit(x.deep(0, 0)));
    due.failsDoing("a wrong way", ARGUMENT, () -> x.explode(0, 0, 0, 1000001));
    due.fails("a wrong view", ARGUMENT, () -> x.draw(6));
    due.is("the same depth", 0, () -> Due.bit(x.deep(0, 1)));
    due.is("drawn still", 20, () -> x.ink(false));
    due.is("another depth", 1, () -> Due.bit(x.deep(0, 2)));
    due.fails("not drawn any more", STATE, () -> x.ink(false));
    x.draw(0);
    due.done("exploded by 0", () -> x.explode(0, 0, 0, 0));
    due.fails("not drawn after it", STATE, () -> x.ink(false));
    x.draw(0);
    x.box(9, 9, 9, 1, 1);
    due.fails("not drawn after a box", STATE, () -> x.ink(false));
    due.is("another view", 8, () -> x.draw(3));
    due.is("is drawn then", 18, () -> x.ink(false));
  }
}
