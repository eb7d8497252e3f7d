/** Promises 9 to 11: measure, row, total. */
public final class MeasuresTest {
  private static final Class<IllegalStateException> STATE = IllegalStateException.class;
  private static final Class<IllegalArgumentException> ARGUMENT = IllegalArgumentException.class;
  private static final Class<IndexOutOfBoundsException> INDEX = IndexOutOfBoundsException.class;

  public static void main(String[] args) {
    Due due = new Due("MeasuresTest");
    rows(due);
    axesApart(due);
    wrongNumbers(due);
    thirty(due);
    longOnes(due);
    due.end();
  }

  private static PartDrawings boxesAt(int... places) {
    PartDrawings x = new PartDrawings(10, 10);
    for (int p : places) {
      x.box(p, 0, -p, 1, 1);
    }
    return x;
  }

  private static void told(Due due, PartDrawings x, int[] m, int number, int row) {
    due.is("measure " + m[0] + ", " + m[1] + ", " + m[2], number, () -> x.measure(m[0], m[1], m[2]));
    due.is("row of " + number, row, () -> x.row(number));
  }

  private static void rows(Due due) {
    PartDrawings x = boxesAt(0, 10, 20, 30, 40);
    told(due, x, new int[] {0, 1, 0}, 0, 0);
    told(due, x, new int[] {2, 1, 0}, 1, 0);
    told(due, x, new int[] {0, 2, 0}, 2, 1);
    told(due, x, new int[] {4, 3, 0}, 3, 0);
    told(due, x, new int[] {1, 3, 0}, 4, 2);
    told(due, x, new int[] {2, 3, 0}, 5, 0);
    told(due, x, new int[] {0, 4, 0}, 6, 3);
    told(due, x, new int[] {0, 1, 0}, 7, 2);
    told(due, x, new int[] {3, 2, 0}, 8, 1);
    due.is("row 0", 40, () -> x.total(0, 0));
    due.is("row 1", 30, () -> x.total(0, 1));
    due.is("row 2", 30, () -> x.total(0, 2));
    due.is("row 3", 40, () -> x.total(0, 3));
    due.is("row 4", 0, () -> x.total(0, 4));
    due.is("a row far off", 0, () -> x.total(0, Integer.MAX_VALUE));
  }

  private static void axesApart(Due due) {
    PartDrawings x = boxesAt(0, 10, 20);
    told(due, x, new int[] {0, 2, 0}, 0, 0);
    due.is("the same place", -1, () -> x.measure(0, 2, 1));
    due.is("a box with itself", -1, () -> x.measure(1, 1, 0));
    told(due, x, new int[] {0, 2, 2}, 1, 0);
    told(due, x, new int[] {0, 1, 2}, 2, 1);
    due.is("x", 20, () -> x.total(0, 0));
    due.is("y", 0, () -> x.total(1, 0));
    due.is("z", 20, () -> x.total(2, 0));
    due.is("z, row 1", 10, () -> x.total(2, 1));
    x.explode(0, 5, 5, 5);
    due.is("x stays", 20, () -> x.total(0, 0));
    told(due, x, new int[] {0, 2, 1}, 3, 0);
    due.is("y now", 5, () -> x.total(1, 0));
  }

  private static void wrongNumbers(Due due) {
    PartDrawings x = boxesAt(0, 10);
    int[][] noBox = {{-1, 0, 0}, {0, -1, 0}, {2, 0, 0}, {0, 2, 0}, {2, 2, 5},
        {Integer.MIN_VALUE, 0, 0}, {0, Integer.MAX_VALUE, 0}};
    for (int[] w : noBox) {
      due.fails("measure " + w[0] + ", " + w[1], INDEX, () -> x.measure(w[0], w[1], w[2]));
    }
    int[] axes = {-1, 3, Integer.MIN_VALUE, Integer.MAX_VALUE};
    for (int a : axes) {
      due.fails("measure on " + a, ARGUMENT, () -> x.measure(0, 1, a));
      due.fails("measure of one on " + a, ARGUMENT, () -> x.measure(0, 0, a));
      due.fails("total of " + a, ARGUMENT, () -> x.total(a, 0));
    }
    due.fails("total of row -1", ARGUMENT, () -> x.total(0, -1));
    due.fails("total of the least row", ARGUMENT, () -> x.total(0, Integer.MIN_VALUE));
    due.fails("no measure yet", INDEX, () -> x.row(0));
    x.measure(0, 1, 0);
    due.fails("row of -1", INDEX, () -> x.row(-1));
    due.fails("row of 1", INDEX, () -> x.row(1));
    due.fails("row far off", INDEX, () -> x.row(Integer.MAX_VALUE));
  }

  private static void thirty(Due due) {
    PartDrawings x = boxesAt(0, 10);
    for (int i = 0; i < 30; i++) {
      told(due, x, new int[] {0, 1, 0}, i, i);
    }
    due.fails("measure 30", STATE, () -> x.measure(0, 1, 0));
    due.fails("measure 30 at the same place", STATE, () -> x.measure(0, 1, 1));
    due.fails("measure 30 on no axis", STATE, () -> x.measure(0, 1, 3));
    due.fails("measure 30 of no box", INDEX, () -> x.measure(0, 2, 0));
    due.is("the last row", 10, () -> x.total(0, 29));
    due.is("no row more", 0, () -> x.total(0, 30));
  }

  private static void longOnes(Due due) {
    PartDrawings x = boxesAt(-1000000, 1000000, -999999);
    told(due, x, new int[] {1, 0, 0}, 0, 0);
    told(due, x, new int[] {2, 0, 0}, 1, 1);
    told(due, x, new int[] {1, 2, 0}, 2, 1);
    due.is("row 0", 2000000, () -> x.total(0, 0));
    due.is("row 1", 2000000, () -> x.total(0, 1));
  }
}
