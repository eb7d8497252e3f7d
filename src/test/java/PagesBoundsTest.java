import java.util.function.Supplier;

/** Bounds of promise 14, page, and of PAGES, ON and MARKS among the terms. */
public final class PagesBoundsTest {
  private static final int NONE = PartDrawings.NONE;
  private static final int MOST_COUNTED = 2147483647;
  private static final Bounds BOUNDS = new Bounds("PagesBoundsTest");

  public static void main(String[] args) {
    nothingDrawn();
    noSuchPage();
    noSuchWhat();
    withoutStrokesOnePage();
    justHeld();
    fromTheLeastPlaceOn();
    rowsFromTheLowest();
    onThePageOrBesideIt();
    onAtCorners();
    marksByBeginAndEnd();
    marksByPlaceUp();
    marksOfTheTopRow();
    marksOfPartsOnly();
    marksOfNoStrokeThatGoesUp();
    manyPages();
    mostPages();
    asksOnly();
    BOUNDS.end();
  }

  private static PartDrawings drawn(int width64, int height64, int[]... boxes) {
    PartDrawings x = new PartDrawings(width64, height64);
    for (int[] b : boxes) {
      x.box(b[0], b[1], b.length > 4 ? b[4] : 0, b[2], b[3]);
    }
    x.draw(0);
    return x;
  }

  /** Nine pages of 10 by 10, held from 0 to 30 by boxes at two corners, and this box on them. */
  private static PartDrawings nine(int... box) {
    return drawn(10, 10, new int[] {0, 0, 1, 1}, new int[] {29, 29, 1, 1}, box);
  }

  private static void pages(PartDrawings x, int what, long... want) {
    BOUNDS.answers(x, want.length, Call.page(NONE, what));
    for (int k = 0; k < want.length; k++) {
      BOUNDS.answers(x, want[k], Call.page(k, what));
    }
    BOUNDS.fails(x, Bounds.INDEX, Call.page(want.length, what));
  }

  // "IllegalStateException (first)"
  private static void nothingDrawn() {
    Call[] calls = {Call.page(NONE, 0), Call.page(NONE, 1), Call.page(NONE, 2), Call.page(0, 0),
        Call.page(0, -1), Call.page(-2, 0), Call.page(MOST_COUNTED, Integer.MIN_VALUE)};
    BOUNDS.refused(Makers::empty, Bounds.STATE, calls);
    BOUNDS.refused(Makers::pair, Bounds.STATE, calls);
    BOUNDS.refused(Makers::pairKeptNotDrawn, Bounds.STATE, calls);
    BOUNDS.refused(Makers::fullNotDrawn, Bounds.STATE, calls);
  }

  // "IndexOutOfBoundsException", the second of the three.
  private static void noSuchPage() {
    refusedPages(Makers::emptyDrawn, 1);
    refusedPages(Makers::pairKept, 2);
    refusedPages(Makers::full, 2);
  }

  private static void refusedPages(Supplier<PartDrawings> maker, int count) {
    BOUNDS.answers(maker.get(), count, Call.page(NONE, 0));
    int[] wrong = {Integer.MIN_VALUE, -3, -2, count, count + 1, MOST_COUNTED};
    for (int k : wrong) {
      BOUNDS.refused(maker, Bounds.INDEX, Call.page(k, 0), Call.page(k, 1), Call.page(k, 2),
          Call.page(k, -1));
    }
  }

  // "IllegalArgumentException: another what (with NONE, too)."
  private static void noSuchWhat() {
    int[] wrong = {Integer.MIN_VALUE, -1, 2, 3, Integer.MAX_VALUE};
    for (int w : wrong) {
      BOUNDS.refused(Makers::emptyDrawn, Bounds.ARGUMENT, Call.page(NONE, w), Call.page(0, w));
      BOUNDS.refused(Makers::pairKept, Bounds.ARGUMENT, Call.page(NONE, w), Call.page(0, w),
          Call.page(1, w));
    }
  }

  private static void withoutStrokesOnePage() {
    for (int view = 0; view < 6; view++) {
      PartDrawings x = new PartDrawings(1, 65536);
      x.draw(view);
      pages(x, 0, 0);
      pages(x, 1, 0);
    }
  }

  // "as many as are needed to hold it (one at least each way)": less by one, just so, more by one.
  private static void justHeld() {
    int[][] held = {{1, 1}, {9, 1}, {10, 1}, {11, 2}, {19, 2}, {20, 2}, {21, 3}, {30, 3}, {31, 4}};
    for (int[] across : held) {
      for (int[] up : held) {
        PartDrawings x = drawn(10, 10, new int[] {-7, 4, across[0], up[0]});
        BOUNDS.answers(x, (long) across[1] * up[1], Call.page(NONE, 0));
      }
    }
    int[][] great = {{65535, 1}, {65536, 1}, {65537, 2}, {131072, 2}, {131073, 3}};
    for (int[] g : great) {
      PartDrawings x = drawn(65536, 65536, new int[] {0, 0, g[0], 1});
      BOUNDS.answers(x, g[1], Call.page(NONE, 1));
      PartDrawings y = drawn(65536, 65536, new int[] {0, 0, 1, g[0]});
      BOUNDS.answers(y, g[1], Call.page(NONE, 1));
    }
  }

  // "laid over what is DRAWN, from its least place across and up on"
  private static void fromTheLeastPlaceOn() {
    // The least places are of different boxes, and the pages' sides lie from there on.
    PartDrawings x = drawn(10, 10, new int[] {-5, 8, 3, 2}, new int[] {2, -4, 8, 3});
    pages(x, 0, 3, 3, 4, 0);
    pages(x, 1, 2, 0, 0, 0);
    // The same farther off.
    x.explode(0, 1000, -1000, 0);
    x.explode(1, 1000, -1000, 0);
    x.draw(0);
    pages(x, 0, 3, 3, 4, 0);
    pages(x, 1, 2, 0, 0, 0);
    // Of another view there are other pages.
    x.deep(1, 50);
    x.draw(4);
    BOUNDS.answers(x, 10, Call.page(NONE, 0));
  }

  // "in rows from the lowest one on, each from the left"
  private static void rowsFromTheLowest() {
    pages(nine(12, 2, 3, 3), 0, 4, 4, 0, 0, 0, 0, 0, 0, 4);
    pages(nine(22, 2, 3, 3), 0, 4, 0, 4, 0, 0, 0, 0, 0, 4);
    pages(nine(2, 12, 3, 3), 0, 4, 0, 0, 4, 0, 0, 0, 0, 4);
    pages(nine(22, 12, 3, 3), 0, 4, 0, 0, 0, 0, 4, 0, 0, 4);
    pages(nine(2, 22, 3, 3), 0, 4, 0, 0, 0, 0, 0, 4, 0, 4);
  }

  // "if a part of it of some length is on it or on its sides": the middle page is 10 .. 20.
  private static void onThePageOrBesideIt() {
    int[][] lefts = {{2, 0, 4}, {3, 1, 4}, {4, 3, 3}};
    for (int[] l : lefts) {
      PartDrawings x = nine(l[0], 12, 7, 3);
      BOUNDS.answers(x, l[1], Call.page(4, 0));
      BOUNDS.answers(x, l[2], Call.page(3, 0));
      PartDrawings y = nine(12, l[0], 3, 7);
      BOUNDS.answers(y, l[1], Call.page(4, 0));
      BOUNDS.answers(y, l[2], Call.page(1, 0));
    }
    int[][] rights = {{21, 0, 4}, {20, 1, 4}, {19, 3, 3}};
    for (int[] r : rights) {
      PartDrawings x = nine(r[0], 12, 7, 3);
      BOUNDS.answers(x, r[1], Call.page(4, 0));
      BOUNDS.answers(x, r[2], Call.page(5, 0));
      PartDrawings y = nine(12, r[0], 3, 7);
      BOUNDS.answers(y, r[1], Call.page(4, 0));
      BOUNDS.answers(y, r[2], Call.page(7, 0));
    }
    // As great as the page itself, greater and less by one all round.
    pages(nine(10, 10, 10, 10), 0, 4, 1, 0, 1, 4, 1, 0, 1, 4);
    pages(nine(9, 9, 12, 12), 0, 6, 1, 2, 1, 0, 1, 2, 1, 6);
    pages(nine(11, 11, 8, 8), 0, 4, 0, 0, 0, 4, 0, 0, 0, 4);
    // A stroke over all three pages of a row.
    pages(nine(1, 15, 28, 1), 0, 4, 0, 0, 3, 2, 3, 0, 0, 4);
  }

  // A stroke that only ends at a page's corner has no part of some length there.
  private static void onAtCorners() {
    pages(nine(2, 2, 7, 7), 0, 8, 0, 0, 0, 0, 0, 0, 0, 4);
    pages(nine(3, 3, 7, 7), 0, 8, 1, 0, 1, 0, 0, 0, 0, 4);
    pages(nine(4, 4, 7, 7), 0, 6, 2, 0, 2, 2, 0, 0, 0, 4);
    pages(nine(20, 20, 7, 7), 0, 4, 0, 0, 0, 0, 1, 0, 1, 8);
  }

  // "beyond its right side (from before it to behind it)": of the middle page that is 20.
  private static void marksByBeginAndEnd() {
    int[][] ends = {{7, 0}, {8, 0}, {9, 2}};
    for (int[] e : ends) {
      BOUNDS.answers(nine(12, 12, e[0], 3), e[1], Call.page(4, 1));
    }
    int[][] begins = {{19, 2}, {20, 0}, {21, 0}};
    for (int[] b : begins) {
      BOUNDS.answers(nine(b[0], 12, 3, 3), b[1], Call.page(4, 1));
    }
    pages(nine(10, 12, 10, 3), 1, 0, 0, 0, 0, 0, 0, 0, 0, 0);
    pages(nine(9, 12, 12, 3), 1, 0, 0, 0, 2, 2, 0, 0, 0, 0);
    pages(nine(3, 12, 24, 3), 1, 0, 0, 0, 2, 2, 0, 0, 0, 0);
    pages(nine(0, 12, 30, 3), 1, 0, 0, 0, 2, 2, 0, 0, 0, 0);
    pages(nine(19, 12, 2, 3), 1, 0, 0, 0, 0, 2, 0, 0, 0, 0);
  }

  // "at places up from its lower side on, below its upper one"
  private static void marksByPlaceUp() {
    pages(nine(12, 8, 9, 1), 1, 0, 2, 0, 0, 0, 0, 0, 0, 0);
    pages(nine(12, 9, 9, 1), 1, 0, 1, 0, 0, 1, 0, 0, 0, 0);
    pages(nine(12, 10, 9, 1), 1, 0, 0, 0, 0, 2, 0, 0, 0, 0);
    pages(nine(12, 18, 9, 1), 1, 0, 0, 0, 0, 2, 0, 0, 0, 0);
    pages(nine(12, 19, 9, 1), 1, 0, 0, 0, 0, 1, 0, 0, 1, 0);
    pages(nine(12, 20, 9, 1), 1, 0, 0, 0, 0, 0, 0, 0, 2, 0);
    pages(nine(12, 0, 9, 30), 1, 0, 1, 0, 0, 0, 0, 0, 1, 0);
  }

  // "(of the top row: not above it)": at the upper side itself, and below it by one.
  private static void marksOfTheTopRow() {
    pages(nine(12, 28, 9, 1), 1, 0, 0, 0, 0, 0, 0, 0, 2, 0);
    pages(nine(12, 29, 9, 1), 1, 0, 0, 0, 0, 0, 0, 0, 2, 0);
    // One row alone is the top row: just held, with room left, and one too few.
    pages(drawn(10, 5, new int[] {0, 0, 15, 5}), 1, 2, 0);
    pages(drawn(10, 6, new int[] {0, 0, 15, 5}), 1, 2, 0);
    pages(drawn(10, 4, new int[] {0, 0, 15, 5}), 1, 1, 0, 1, 0);
    // A line on the side between both rows is marked on the upper one alone.
    pages(drawn(10, 5, new int[] {0, 0, 15, 5}, new int[] {0, 5, 15, 5}), 1, 1, 0, 2, 0);
  }

  // A line that breaks into strokes at the right side itself does not go beyond it.
  private static void marksOfPartsOnly() {
    int[] board = {12, 12, 16, 3, 5};
    int[][] covers = {{4, 2}, {5, 0}, {6, 4}};
    for (int[] c : covers) {
      PartDrawings x = drawn(10, 10, new int[] {0, 0, 1, 1}, new int[] {29, 29, 1, 1}, board,
          new int[] {15, 11, c[0], 6, 0});
      BOUNDS.answers(x, c[1], Call.page(4, 1));
    }
  }

  private static void marksOfNoStrokeThatGoesUp() {
    pages(nine(12, 1, 3, 28), 1, 0, 0, 0, 0, 0, 0, 0, 0, 0);
    pages(nine(20, 1, 3, 28), 1, 0, 0, 0, 0, 0, 0, 0, 0, 0);
  }

  // "(k = NONE: how many; 2147483647, if there are more)". That number is a prime, so no drawing
  // has just so many pages; 14322 * 149943 is one less, 4096 * 524288 one more.
  private static void manyPages() {
    PartDrawings less = drawn(1, 1, new int[] {0, 0, 14322, 149943});
    BOUNDS.answers(less, MOST_COUNTED - 1, Call.page(NONE, 0));
    BOUNDS.answers(less, 2, Call.page(MOST_COUNTED - 2, 0));
    BOUNDS.fails(less, Bounds.INDEX, Call.page(MOST_COUNTED - 1, 0));
    BOUNDS.fails(less, Bounds.INDEX, Call.page(MOST_COUNTED, 0));
    PartDrawings more = drawn(1, 1, new int[] {0, 0, 4096, 524288});
    BOUNDS.answers(more, MOST_COUNTED, Call.page(NONE, 0));
    BOUNDS.answers(more, MOST_COUNTED, Call.page(NONE, 1));
    BOUNDS.answers(more, 1, Call.page(MOST_COUNTED - 1, 0));
    BOUNDS.answers(more, 2, Call.page(MOST_COUNTED, 0));
    BOUNDS.answers(more, 0, Call.page(MOST_COUNTED, 1));
    BOUNDS.answers(more, 1, Call.page(MOST_COUNTED - 1, 1));
    BOUNDS.answers(more, 2, Call.page(0, 0));
    BOUNDS.answers(more, 1, Call.page(0, 1));
    BOUNDS.fails(more, Bounds.INDEX, Call.page(-2, 0));
    BOUNDS.fails(more, Bounds.INDEX, Call.page(Integer.MIN_VALUE, 0));
    BOUNDS.fails(more, Bounds.ARGUMENT, Call.page(MOST_COUNTED, 2));
  }

  // 3000000 pages each way: numbers of pages are beyond what an int holds.
  private static void mostPages() {
    int most = 1000000;
    PartDrawings x = drawn(1, 1, new int[] {-most, -most, most, most},
        new int[] {most, most, most, most});
    BOUNDS.answers(x, MOST_COUNTED, Call.page(NONE, 0));
    BOUNDS.answers(x, 2, Call.page(0, 0));
    BOUNDS.answers(x, 2, Call.page(most - 1, 0));
    BOUNDS.answers(x, 0, Call.page(most - 1, 1));
    // The box's right side is this page's left one.
    BOUNDS.answers(x, 1, Call.page(most, 0));
    BOUNDS.answers(x, 0, Call.page(most + 1, 0));
    BOUNDS.answers(x, 0, Call.page(3 * most - 1, 0));
    BOUNDS.answers(x, 1, Call.page(3 * most, 0));
    BOUNDS.answers(x, 0, Call.page(MOST_COUNTED, 0));
  }

  private static void asksOnly() {
    PartDrawings x = Makers.pairKept();
    pages(x, 0, 9, 3);
    pages(x, 1, 0, 0);
    BOUNDS.alike("an object that was asked for its pages", Makers.pairKept(), x);
  }
}
