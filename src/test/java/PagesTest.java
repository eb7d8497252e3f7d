/** Promise 14: page. */
public final class PagesTest {
  private static final Class<IllegalStateException> STATE = IllegalStateException.class;
  private static final Class<IllegalArgumentException> ARGUMENT = IllegalArgumentException.class;
  private static final Class<IndexOutOfBoundsException> INDEX = IndexOutOfBoundsException.class;

  public static void main(String[] args) {
    Due due = new Due("PagesTest");
    nothingDrawn(due);
    oneFits(due);
    marksOnSides(due);
    marksBeginAndEnd(due);
    numbers(due);
    justTheMost(due);
    due.end();
  }

  private static void pages(Due due, PartDrawings x, int what, long[] want) {
    for (int k = 0; k < want.length; k++) {
      int page = k;
      due.is("page " + page + ", " + what, want[page], () -> x.page(page, what));
    }
    due.is("pages", want.length, () -> x.page(-1, what));
    due.fails("page " + want.length, INDEX, () -> x.page(want.length, what));
  }

  private static void nothingDrawn(Due due) {
    PartDrawings x = new PartDrawings(10, 10);
    due.fails("not drawn", STATE, () -> x.page(-1, 0));
    due.fails("not drawn, all wrong", STATE, () -> x.page(-7, 7));
    x.draw(0);
    pages(due, x, 0, new long[] {0});
    pages(due, x, 1, new long[] {0});
    due.fails("no strokes, wrong what", ARGUMENT, () -> x.page(-1, 2));
  }

  private static void oneFits(Due due) {
    PartDrawings x = new PartDrawings(10, 20);
    x.box(-5, -7, 0, 10, 20);
    x.draw(0);
    pages(due, x, 0, new long[] {4});
    pages(due, x, 1, new long[] {0});
    x.box(0, 0, 0, 6, 5);
    x.draw(0);
    due.is("one more across", 2, () -> x.page(-1, 0));
    x.box(0, 13, 0, 1, 1);
    x.draw(0);
    due.is("one more up", 4, () -> x.page(-1, 0));
    int[] whats = {-1, 2, Integer.MIN_VALUE, Integer.MAX_VALUE};
    for (int w : whats) {
      due.fails("page 0, " + w, ARGUMENT, () -> x.page(0, w));
      due.fails("page -1, " + w, ARGUMENT, () -> x.page(-1, w));
      due.fails("page 4, " + w, INDEX, () -> x.page(4, w));
      due.fails("page -2, " + w, INDEX, () -> x.page(-2, w));
    }
    due.fails("the least page", INDEX, () -> x.page(Integer.MIN_VALUE, 0));
    due.fails("the greatest page", INDEX, () -> x.page(Integer.MAX_VALUE, 0));
  }

  // Lines at 0, 5 and 10 up, on pages of 5: the middle one is on four pages, marked on the upper.
  private static void marksOnSides(Due due) {
    PartDrawings x = new PartDrawings(5, 5);
    x.box(0, 0, 0, 10, 5);
    x.box(0, 5, 0, 10, 5);
    x.draw(0);
    pages(due, x, 0, new long[] {3, 3, 3, 3});
    pages(due, x, 1, new long[] {1, 0, 2, 0});
  }

  private static void marksBeginAndEnd(Due due) {
    PartDrawings x = new PartDrawings(4, 100);
    x.box(0, 0, 0, 4, 1);
    x.box(4, 10, 0, 4, 1);
    x.box(3, 20, 0, 2, 1);
    x.box(1, 30, 0, 8, 1);
    x.draw(0);
    pages(due, x, 0, new long[] {11, 10, 4});
    pages(due, x, 1, new long[] {4, 2, 0});
  }

  private static void numbers(Due due) {
    PartDrawings x = new PartDrawings(1, 1);
    x.box(-1000000, -1000000, 0, 1000000, 1000000);
    x.box(1000000, 1000000, 0, 1000000, 1000000);
    x.draw(0);
    due.is("pages", Integer.MAX_VALUE, () -> x.page(-1, 0));
    due.is("the first one", 2, () -> x.page(0, 0));
    due.is("its marks", 1, () -> x.page(0, 1));
    due.is("at the right end of the box", 2, () -> x.page(999999, 0));
    due.is("its marks", 0, () -> x.page(999999, 1));
    due.is("the next row", 1, () -> x.page(3000000, 0));
    due.is("the greatest number", 0, () -> x.page(Integer.MAX_VALUE, 0));
    due.fails("still below 0", INDEX, () -> x.page(-2, 0));
  }

  // 2147483647 lies between 46340 * 46341 and 46341 * 46341.
  private static void justTheMost(Due due) {
    PartDrawings x = new PartDrawings(1, 1);
    x.box(0, 0, 0, 46341, 46341);
    x.draw(0);
    due.is("beyond it", Integer.MAX_VALUE, () -> x.page(-1, 0));
    due.is("the greatest page", 1, () -> x.page(Integer.MAX_VALUE, 0));
    PartDrawings y = new PartDrawings(1, 1);
    y.box(0, 0, 0, 46340, 46341);
    y.draw(0);
    due.is("below it", 46340 * 46341, () -> y.page(-1, 0));
    due.fails("behind the last one", INDEX, () -> y.page(46340 * 46341, 0));
    due.is("the last one", 2, () -> y.page(46340 * 46341 - 1, 0));
  }
}
