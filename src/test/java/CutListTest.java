/** Promise 13: list. */
public final class CutListTest {
  private static final Class<IllegalArgumentException> ARGUMENT = IllegalArgumentException.class;
  private static final Class<IndexOutOfBoundsException> INDEX = IndexOutOfBoundsException.class;

  public static void main(String[] args) {
    Due due = new Due("CutListTest");
    empty(due);
    ordered(due);
    allSixWays(due);
    wrongNumbers(due);
    due.end();
  }

  private static void add(PartDrawings x, int w, int h, int d) {
    x.deep(x.box(0, 0, 0, w, h), d);
  }

  private static void line(Due due, PartDrawings x, int k, long[] want) {
    for (int what = 0; what < 4; what++) {
      int i = what;
      due.is("list " + k + ", " + i, want[i], () -> x.list(k, i));
    }
  }

  private static void empty(Due due) {
    PartDrawings x = new PartDrawings(10, 10);
    due.is("no line", 0, () -> x.list(-1, 3));
    due.fails("line 0", INDEX, () -> x.list(0, 0));
    due.fails("line 0, wrong what", INDEX, () -> x.list(0, 4));
    due.fails("no line, wrong what", ARGUMENT, () -> x.list(-1, 4));
  }

  private static void ordered(Due due) {
    PartDrawings x = new PartDrawings(10, 10);
    add(x, 5, 2, 9);
    add(x, 9, 3, 1);
    add(x, 1, 10, 1);
    add(x, 9, 5, 1);
    add(x, 2, 9, 5);
    add(x, 3, 1, 9);
    add(x, 5, 9, 2);
    due.is("lines", 4, () -> x.list(-1, 0));
    line(due, x, 0, new long[] {10, 1, 1, 1});
    line(due, x, 1, new long[] {9, 5, 2, 3});
    line(due, x, 2, new long[] {9, 5, 1, 1});
    line(due, x, 3, new long[] {9, 3, 1, 2});
    x.deep(0, 1);
    due.is("lines with another depth", 5, () -> x.list(-1, 0));
    line(due, x, 4, new long[] {5, 2, 1, 1});
  }

  private static void allSixWays(Due due) {
    PartDrawings x = new PartDrawings(10, 10);
    int[][] ways = {{7, 8, 9}, {7, 9, 8}, {8, 7, 9}, {8, 9, 7}, {9, 7, 8}, {9, 8, 7}};
    for (int i = 0; i < 24; i++) {
      int[] w = ways[i % 6];
      add(x, w[0], w[1], w[2]);
    }
    due.is("one line", 1, () -> x.list(-1, 0));
    line(due, x, 0, new long[] {9, 8, 7, 24});
  }

  private static void wrongNumbers(Due due) {
    PartDrawings x = new PartDrawings(10, 10);
    add(x, 1000000, 1000000, 1000000);
    line(due, x, 0, new long[] {1000000, 1000000, 1000000, 1});
    int[] lines = {-2, 1, Integer.MIN_VALUE, Integer.MAX_VALUE};
    for (int k : lines) {
      due.fails("list " + k, INDEX, () -> x.list(k, 0));
      due.fails("list " + k + ", wrong what", INDEX, () -> x.list(k, -1));
    }
    int[] whats = {-1, 4, Integer.MIN_VALUE, Integer.MAX_VALUE};
    for (int w : whats) {
      due.fails("list 0, " + w, ARGUMENT, () -> x.list(0, w));
      due.fails("list -1, " + w, ARGUMENT, () -> x.list(-1, w));
    }
  }
}
