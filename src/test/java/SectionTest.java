/** Promise 12: section. */
public final class SectionTest {
  private static final Class<IllegalArgumentException> ARGUMENT = IllegalArgumentException.class;

  public static void main(String[] args) {
    Due due = new Due("SectionTest");
    sides(due);
    together(due);
    wrongNumbers(due);
    great(due);
    due.end();
  }

  private static void cut(Due due, PartDrawings x, int view, long at, long[] want) {
    due.is("rectangles of " + view + " at " + at, want[0], () -> x.section(view, at, 0));
    due.is("area of " + view + " at " + at, want[1], () -> x.section(view, at, 1));
  }

  private static void sides(Due due) {
    PartDrawings x = new PartDrawings(10, 10);
    cut(due, x, 0, 0, new long[] {0, 0});
    x.box(1, 20, 300, 4, 5);
    x.deep(0, 6);
    long[] none = {0, 0};
    int[][] edges = {{300, 306, 20}, {1, 5, 30}, {20, 25, 24}};
    for (int view = 0; view < 6; view++) {
      int[] e = edges[view / 2];
      cut(due, x, view, e[0], none);
      cut(due, x, view, e[0] + 1, new long[] {1, e[2]});
      cut(due, x, view, e[1] - 1, new long[] {1, e[2]});
      cut(due, x, view, e[1], none);
      cut(due, x, view, -e[0] - 1, none);
      cut(due, x, view, Long.MIN_VALUE, none);
      cut(due, x, view, Long.MAX_VALUE, none);
      cut(due, x, view, e[0] + 1 + (1L << 32), none);
    }
  }

  private static void together(Due due) {
    PartDrawings x = new PartDrawings(10, 10);
    x.box(0, 0, 0, 10, 10);
    x.deep(0, 2);
    x.box(5, 5, 0, 10, 10);
    x.deep(1, 4);
    x.box(5, 5, 0, 10, 10);
    x.deep(2, 4);
    x.box(20, 0, 0, 1, 1);
    cut(due, x, 0, 1, new long[] {3, 175});
    cut(due, x, 1, 2, new long[] {2, 100});
    cut(due, x, 1, 3, new long[] {2, 100});
    cut(due, x, 2, 7, new long[] {3, 50});
    x.draw(0);
    cut(due, x, 4, 7, new long[] {3, 50});
    due.is("still drawn", 0, () -> x.on(0, 0, true));
  }

  private static void wrongNumbers(Due due) {
    PartDrawings x = new PartDrawings(10, 10);
    x.box(0, 0, 0, 2, 2);
    int[] views = {-1, 6, Integer.MIN_VALUE, Integer.MAX_VALUE};
    for (int v : views) {
      due.fails("section of " + v, ARGUMENT, () -> x.section(v, 0, 0));
    }
    int[] whats = {-1, 2, Integer.MIN_VALUE, Integer.MAX_VALUE};
    for (int w : whats) {
      due.fails("section's " + w, ARGUMENT, () -> x.section(0, 0, w));
    }
  }

  private static void great(Due due) {
    PartDrawings x = new PartDrawings(10, 10);
    for (int i = 0; i < 4; i++) {
      x.box(i % 2 * 1000000, i / 2 * 1000000, 0, 1000000, 1000000);
      x.deep(i, 1000000);
    }
    cut(due, x, 0, 1, new long[] {4, 4000000000000L});
  }
}
