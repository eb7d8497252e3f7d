/** Bounds of promise 13, list, and of THE CUT LIST among the terms. */
public final class CutListBoundsTest {
  private static final int[][] WAYS = {{0, 1, 2}, {0, 2, 1}, {1, 0, 2}, {1, 2, 0}, {2, 0, 1},
      {2, 1, 0}};
  private static final Bounds BOUNDS = new Bounds("CutListBoundsTest");

  public static void main(String[] args) {
    noSuchLine();
    noSuchWhat();
    noBoxes();
    greatestSizeFirst();
    firstThenSecondThenThird();
    sameThreeAreOneLine();
    apartByOne();
    fullList();
    changedDepths();
    asksOnly();
    BOUNDS.end();
  }

  private static void add(PartDrawings x, int... sizes) {
    x.deep(x.box(0, 0, 0, sizes[0], sizes[1]), sizes[2]);
  }

  private static void line(PartDrawings x, int k, long... want) {
    for (int what = 0; what < 4; what++) {
      BOUNDS.answers(x, want[what], Call.list(k, what));
    }
  }

  /** How many lines, whatever of them is asked for; and none behind them. */
  private static void lines(PartDrawings x, int want) {
    for (int what = 0; what < 4; what++) {
      BOUNDS.answers(x, want, Call.list(PartDrawings.NONE, what));
    }
    BOUNDS.fails(x, Bounds.INDEX, Call.list(want, 0));
    BOUNDS.fails(x, Bounds.INDEX, Call.list(want, 3));
  }

  // "IndexOutOfBoundsException", the first of both; NONE itself is no such line.
  private static void noSuchLine() {
    BOUNDS.refused(Makers::empty, Bounds.INDEX, Call.list(0, 0), Call.list(-2, 0),
        Call.list(0, 4), Call.list(0, -1));
    int[] wrong = {Integer.MIN_VALUE, -3, -2, 2, 3, 24, Integer.MAX_VALUE};
    for (int k : wrong) {
      BOUNDS.refused(Makers::pairKept, Bounds.INDEX, Call.list(k, 0), Call.list(k, 3),
          Call.list(k, 4), Call.list(k, -1));
    }
    BOUNDS.refused(Makers::full, Bounds.INDEX, Call.list(1, 0), Call.list(24, 0), Call.list(-2, 0));
  }

  // "IllegalArgumentException: another what (with NONE, too)."
  private static void noSuchWhat() {
    int[] wrong = {Integer.MIN_VALUE, -1, 4, 5, Integer.MAX_VALUE};
    for (int w : wrong) {
      BOUNDS.refused(Makers::empty, Bounds.ARGUMENT, Call.list(-1, w));
      BOUNDS.refused(Makers::pairKept, Bounds.ARGUMENT, Call.list(-1, w), Call.list(0, w),
          Call.list(1, w));
    }
  }

  private static void noBoxes() {
    lines(Makers.empty(), 0);
    PartDrawings x = Makers.empty();
    x.box(0, 0, 0, 1, 1);
    lines(x, 1);
    line(x, 0, 1, 1, 1, 1);
  }

  // "boxes by their sizes, the greatest one first, whatever way they lie"
  private static void greatestSizeFirst() {
    int[][] sizes = {{7, 8, 9}, {7, 7, 8}, {7, 8, 8}, {8, 8, 8}, {1, 999999, 1000000}};
    for (int[] s : sizes) {
      for (int[] way : WAYS) {
        PartDrawings x = Makers.empty();
        add(x, s[way[0]], s[way[1]], s[way[2]]);
        lines(x, 1);
        line(x, 0, s[2], s[1], s[0], 1);
      }
    }
  }

  // "lines with the greater first size first, then the second, then the third"
  private static void firstThenSecondThenThird() {
    int[][] sorted = {{10, 1, 1}, {9, 9, 9}, {9, 9, 8}, {9, 8, 8}, {9, 8, 7}, {9, 8, 6}, {9, 7, 7},
        {8, 8, 8}};
    for (int turn = 0; turn < sorted.length; turn++) {
      PartDrawings x = Makers.empty();
      for (int i = 0; i < sorted.length; i++) {
        int[] s = sorted[(i * 5 + turn) % sorted.length];
        int[] way = WAYS[(i + turn) % WAYS.length];
        add(x, s[way[0]], s[way[1]], s[way[2]]);
      }
      lines(x, sorted.length);
      for (int k = 0; k < sorted.length; k++) {
        line(x, k, sorted[k][0], sorted[k][1], sorted[k][2], 1);
      }
    }
  }

  // "those with the same three are one line"
  private static void sameThreeAreOneLine() {
    PartDrawings x = Makers.empty();
    for (int i = 0; i < 24; i++) {
      lines(x, i == 0 ? 0 : 1);
      int[] way = WAYS[i % 6];
      int[] s = {3, 5, 4};
      add(x, s[way[0]], s[way[1]], s[way[2]]);
      line(x, 0, 5, 4, 3, i + 1);
    }
  }

  private static void apartByOne() {
    int[][] others = {{6, 4, 3, 0}, {4, 4, 3, 1}, {5, 5, 3, 0}, {5, 3, 3, 1}, {5, 4, 4, 0},
        {5, 4, 2, 1}};
    for (int[] o : others) {
      PartDrawings x = Makers.empty();
      add(x, 4, 3, 5);
      add(x, o[2], o[0], o[1]);
      add(x, 5, 3, 4);
      lines(x, 2);
      line(x, o[3], o[0], o[1], o[2], 1);
      line(x, 1 - o[3], 5, 4, 3, 2);
    }
  }

  // 24 boxes, no two alike: 24 lines.
  private static void fullList() {
    PartDrawings x = Makers.empty();
    for (int i = 0; i < 24; i++) {
      add(x, 1, 1 + i * 7 % 24, 100);
    }
    lines(x, 24);
    line(x, 0, 100, 24, 1, 1);
    line(x, 12, 100, 12, 1, 1);
    line(x, 23, 100, 1, 1, 1);
  }

  private static void changedDepths() {
    PartDrawings x = Makers.empty();
    x.box(0, 0, 0, 5, 6);
    x.box(0, 0, 0, 6, 5);
    lines(x, 1);
    line(x, 0, 6, 5, 1, 2);
    x.deep(1, 7);
    lines(x, 2);
    line(x, 0, 7, 6, 5, 1);
    line(x, 1, 6, 5, 1, 1);
    x.deep(0, 7);
    lines(x, 1);
    line(x, 0, 7, 6, 5, 2);
    x.explode(0, 100, -100, 7);
    line(x, 0, 7, 6, 5, 2);
  }

  private static void asksOnly() {
    PartDrawings x = Makers.pairKept();
    for (int what = 0; what < 4; what++) {
      x.list(-1, what);
      x.list(0, what);
      x.list(1, what);
    }
    BOUNDS.alike("an object that was asked for its list", Makers.pairKept(), x);
  }
}
