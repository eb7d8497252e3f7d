/** Bounds of promise 12, section, and of SECTION among the terms. */
public final class SectionBoundsTest {
  private static final long MOST = 1000000;
  private static final long WRAPPED = 1L << 32;
  private static final Bounds BOUNDS = new Bounds("SectionBoundsTest");

  public static void main(String[] args) {
    noSuchView();
    noSuchWhat();
    nothingThere();
    insideNotAtTheSides();
    thinBoxesHaveNothingInside();
    farOffPlaces();
    areaTogether();
    besideOneAnother();
    greatestArea();
    allBoxesApart();
    otherBoxesThanBefore();
    asksOnly();
    BOUNDS.end();
  }

  private static void cut(PartDrawings x, int view, long at, long rectangles, long area) {
    BOUNDS.answers(x, rectangles, Call.section(view, at, 0));
    BOUNDS.answers(x, area, Call.section(view, at, 1));
  }

  // "IllegalArgumentException: another view or what."
  private static void noSuchView() {
    int[] views = {Integer.MIN_VALUE, -1, 6, 7, Integer.MAX_VALUE};
    for (int v : views) {
      BOUNDS.refused(Makers::empty, Bounds.ARGUMENT, Call.section(v, 1, 0));
      BOUNDS.refused(Makers::pairKept, Bounds.ARGUMENT, Call.section(v, 1, 0),
          Call.section(v, 1, 1), Call.section(v, 1, 2), Call.section(v, Long.MIN_VALUE, 1));
    }
  }

  private static void noSuchWhat() {
    int[] whats = {Integer.MIN_VALUE, -1, 2, 3, Integer.MAX_VALUE};
    for (int w : whats) {
      BOUNDS.refused(Makers::empty, Bounds.ARGUMENT, Call.section(0, 1, w));
      BOUNDS.refused(Makers::pairKept, Bounds.ARGUMENT, Call.section(0, 1, w),
          Call.section(5, 1, w), Call.section(3, Long.MAX_VALUE, w));
    }
  }

  private static void nothingThere() {
    for (int view = 0; view < 6; view++) {
      cut(Makers.empty(), view, 0, 0, 0);
      cut(Makers.pair(), view, -1, 0, 0);
    }
  }

  // "the boxes that have it inside (not at their sides)": outside, at the side, inside, by one.
  private static void insideNotAtTheSides() {
    PartDrawings x = Makers.empty();
    x.box(1, 20, 300, 4, 5);
    x.deep(0, 6);
    long[][] sides = {{300, 306, 4 * 5}, {1, 5, 5 * 6}, {20, 25, 4 * 6}};
    for (int view = 0; view < 6; view++) {
      long near = sides[view / 2][0];
      long far = sides[view / 2][1];
      long area = sides[view / 2][2];
      cut(x, view, near - 1, 0, 0);
      cut(x, view, near, 0, 0);
      cut(x, view, near + 1, 1, area);
      cut(x, view, far - 1, 1, area);
      cut(x, view, far, 0, 0);
      cut(x, view, far + 1, 0, 0);
      // The place is on the axis, not less it, in views against it, too.
      cut(x, view, -near - 1, 0, 0);
    }
  }

  private static void thinBoxesHaveNothingInside() {
    PartDrawings x = Makers.empty();
    x.box(0, 0, 0, 1, 1);
    PartDrawings y = Makers.empty();
    y.box(0, 0, 0, 2, 2);
    y.deep(0, 2);
    for (int view = 0; view < 6; view++) {
      cut(x, view, -1, 0, 0);
      cut(x, view, 0, 0, 0);
      cut(x, view, 1, 0, 0);
      cut(y, view, 0, 0, 0);
      cut(y, view, 1, 1, 4);
      cut(y, view, 2, 0, 0);
    }
  }

  private static void farOffPlaces() {
    PartDrawings x = Makers.empty();
    x.box(-MOST, -MOST, -MOST, 2, 2);
    x.deep(0, 2);
    x.box(MOST, MOST, MOST, MOST, MOST);
    x.deep(1, MOST);
    long[] far = {Long.MIN_VALUE, -WRAPPED - MOST + 1, WRAPPED - MOST + 1, WRAPPED,
        WRAPPED + MOST + 1, Long.MAX_VALUE};
    for (int view = 0; view < 6; view++) {
      cut(x, view, -MOST, 0, 0);
      cut(x, view, -MOST + 1, 1, 4);
      cut(x, view, -MOST + 2, 0, 0);
      cut(x, view, MOST, 0, 0);
      cut(x, view, MOST + 1, 1, MOST * MOST);
      cut(x, view, 2 * MOST - 1, 1, MOST * MOST);
      cut(x, view, 2 * MOST, 0, 0);
      for (long at : far) {
        cut(x, view, at, 0, 0);
      }
    }
  }

  // "the area that they cover together": what several have is counted once.
  private static void areaTogether() {
    int[][] seconds = {{0, 0, 10, 10, 100}, {2, 2, 3, 3, 100}, {9, 9, 10, 10, 199},
        {5, 0, 10, 10, 150}, {0, 5, 10, 10, 150}, {-5, -5, 20, 20, 400}, {-1, 4, 12, 2, 104}};
    for (int[] s : seconds) {
      for (int view = 0; view < 6; view++) {
        PartDrawings x = Makers.empty();
        Makers.seenAs(x, view, new int[] {0, 0, 10, 10}, 0, 4);
        Makers.seenAs(x, view, new int[] {s[0], s[1], s[2], s[3]}, 1, 5);
        int sign = view % 2 == 0 ? 1 : -1;
        cut(x, view, sign, 1, 100);
        cut(x, view, 2 * sign, 2, s[4]);
        cut(x, view, 3 * sign, 2, s[4]);
        cut(x, view, 4 * sign, 1, (long) s[2] * s[3]);
        cut(x, view, 5 * sign, 1, (long) s[2] * s[3]);
        cut(x, view, 6 * sign, 0, 0);
      }
    }
  }

  // Touching at a side or a corner, apart by one: two rectangles and all of both areas.
  private static void besideOneAnother() {
    int[][] seconds = {{10, 0}, {11, 0}, {0, 10}, {0, 11}, {10, 10}, {11, 11}, {-10, 0},
        {-10, -10}};
    for (int[] s : seconds) {
      PartDrawings x = Makers.empty();
      x.box(0, 0, 0, 10, 10);
      x.deep(0, 2);
      x.box(s[0], s[1], 0, 10, 10);
      x.deep(1, 2);
      cut(x, 0, 1, 2, 200);
      cut(x, 1, 1, 2, 200);
    }
  }

  private static void greatestArea() {
    PartDrawings x = Makers.empty();
    for (int i = 0; i < 24; i++) {
      long across = -MOST + i % 3 * MOST;
      long up = -MOST + i / 3 % 3 * MOST;
      x.deep(x.box(across, up, 0, MOST, MOST), 2);
    }
    cut(x, 0, 1, 24, 9 * MOST * MOST);
    cut(x, 1, 1, 24, 9 * MOST * MOST);
    cut(x, 0, 2, 0, 0);
  }

  // 24 rectangles with all that lies between them free: 48 sides each way.
  private static void allBoxesApart() {
    PartDrawings x = Makers.empty();
    for (int i = 0; i < 24; i++) {
      x.deep(x.box(3 * i, 5 * (23 - i), i, 2, 4), 30);
    }
    cut(x, 0, 24, 24, 24 * 8);
    cut(x, 1, 24, 24, 24 * 8);
    cut(x, 2, 1, 1, 4 * 30);
    cut(x, 0, 1, 1, 8);
    cut(x, 0, 52, 1, 8);
  }

  // What the section before it held is no more, be it greater or less.
  private static void otherBoxesThanBefore() {
    PartDrawings x = Makers.empty();
    x.deep(x.box(0, 0, 0, 1, 1), 10);
    x.deep(x.box(0, 0, 0, 50, 50), 4);
    x.deep(x.box(9, 9, 2, 1, 1), 8);
    cut(x, 0, 3, 3, 2500);
    cut(x, 0, 5, 2, 2);
    cut(x, 0, 1, 2, 2500);
    cut(x, 0, 9, 2, 2);
  }

  // A section of another view leaves what is drawn, and what is kept, as they are.
  private static void asksOnly() {
    PartDrawings x = Makers.pairKept();
    for (int view = 0; view < 6; view++) {
      x.section(view, 1, view % 2);
      x.section(view, 8, 1);
    }
    PartDrawings spared = Makers.pairKept();
    BOUNDS.alike("an object that was asked for sections", spared, x);
  }
}
