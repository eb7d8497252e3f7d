/**
 * Bounds of promise 5, draw, and of the terms VIEWS, FRONT, EDGES, COVERED, SEEN, HIDDEN, STROKES.
 * Boxes are told as they are seen, so that each scene has the same strokes in all six views.
 */
public final class DrawBoundsTest {
  private static final int[] COVER = {0, 0, 10, 10};
  private static final String COVER_LOW = "-0:0..10 ";
  private static final String COVER_HIGH = "-10:0..10 ";

  private static final Bounds BOUNDS = new Bounds("DrawBoundsTest");

  public static void main(String[] args) {
    noSuchView();
    nothingToDraw();
    neverTurnedRound();
    for (int view = 0; view < 6; view++) {
      frontsByOne(view);
      backsCountForNothing(view);
      besideTheLeftSide(view);
      besideTheRightSide(view);
      coveredJustToTheSides(view);
      oneUncoveredEdgeIsEnough(view);
      touchingStrokesJoin(view);
      hiddenStrokesJoin(view);
      seenAndHiddenDoNotJoin(view);
      singlePlacesBetween(view);
      order(view);
    }
    negativePlaces();
    farthestPlaces();
    mostStrokes();
    mostLines();
    BOUNDS.end();
  }

  /** Boxes of {left, lower, width, height, front, depth}. */
  private static PartDrawings scene(int view, int[]... boxes) {
    PartDrawings x = Makers.empty();
    for (int[] b : boxes) {
      Makers.seenAs(x, view, new int[] {b[0], b[1], b[2], b[3]}, b[4], b[5]);
    }
    return x;
  }

  /** The scene has these strokes, and turned (across for up) the turned ones. */
  private static void bothWays(int view, String want, int[]... boxes) {
    BOUNDS.strokes(scene(view, boxes), view, want.trim());
    int[][] turned = new int[boxes.length][];
    for (int i = 0; i < boxes.length; i++) {
      int[] b = boxes[i];
      turned[i] = new int[] {b[1], b[0], b[3], b[2], b[4], b[5]};
    }
    BOUNDS.strokes(scene(view, turned), view, turned(want));
  }

  private static String turned(String strokes) {
    StringBuilder across = new StringBuilder();
    StringBuilder up = new StringBuilder();
    for (String s : strokes.trim().split(" ")) {
      if (s.startsWith("|")) {
        across.append('-').append(s.substring(1)).append(' ');
      } else {
        up.append('|').append(s.substring(1)).append(' ');
      }
    }
    return across.append(up).toString().trim();
  }

  private static int[] cover(int front, int depth) {
    return new int[] {COVER[0], COVER[1], COVER[2], COVER[3], front, depth};
  }

  // "IllegalArgumentException: there is no such view": what is DRAWN stays so.
  private static void noSuchView() {
    int[] views = {Integer.MIN_VALUE, -6, -1, 6, 7, Integer.MAX_VALUE};
    for (int v : views) {
      BOUNDS.refused(Makers::empty, Bounds.ARGUMENT, Call.draw(v));
      BOUNDS.refused(Makers::pair, Bounds.ARGUMENT, Call.draw(v));
      BOUNDS.refused(Makers::pairKept, Bounds.ARGUMENT, Call.draw(v));
    }
    for (int v = 0; v < 6; v++) {
      BOUNDS.answers(Makers.full(), v == 2 || v == 3 ? 4 : 27, Call.draw(v));
    }
  }

  private static void nothingToDraw() {
    for (int v = 0; v < 6; v++) {
      PartDrawings x = Makers.empty();
      BOUNDS.answers(x, 0, Call.draw(v));
      BOUNDS.fails(x, Bounds.INDEX, Call.command(0, 0));
      BOUNDS.answers(x, 0, Call.ink(false));
      BOUNDS.answers(x, 0, Call.ink(true));
      BOUNDS.answers(x, 0, Call.keep());
    }
  }

  // "the other two axes, in the order x, y, z (they are never turned round)"
  private static void neverTurnedRound() {
    PartDrawings x = Makers.empty();
    x.box(1, 20, 300, 4, 5);
    x.deep(0, 6);
    x.box(2, 40, 600, 1, 2);
    x.deep(1, 3);
    String[] wants = {
        "-20:1..5 -25:1..5 -40:2..3 -42:2..3 |1:20..25 |2:40..42 |3:40..42 |5:20..25",
        "-300:20..25 -306:20..25 -600:40..42 -603:40..42 "
            + "|20:300..306 |25:300..306 |40:600..603 |42:600..603",
        "-300:1..5 -306:1..5 -600:2..3 -603:2..3 |1:300..306 |2:600..603 |3:600..603 |5:300..306"};
    for (int view = 0; view < 6; view++) {
      BOUNDS.strokes(x, view, wants[view / 2]);
    }
  }

  // "whose FRONT is below the edge's": the same FRONT is not below it.
  private static void frontsByOne(int view) {
    String seen = COVER_LOW + "-3:3..7 -7:3..7 " + COVER_HIGH
        + "|0:0..10 |3:3..7 |7:3..7 |10:0..10";
    String hidden = COVER_LOW + "-3:3..7h -7:3..7h " + COVER_HIGH
        + "|0:0..10 |3:3..7h |7:3..7h |10:0..10";
    int[] depths = {1, 2, 50};
    for (int coverDepth : depths) {
      for (int depth : depths) {
        bothWays(view, seen, cover(0, coverDepth), new int[] {3, 3, 4, 4, -1, depth});
        bothWays(view, seen, cover(0, coverDepth), new int[] {3, 3, 4, 4, 0, depth});
        bothWays(view, hidden, cover(0, coverDepth), new int[] {3, 3, 4, 4, 1, depth});
      }
    }
  }

  // An edge at the BACK lies on one at the FRONT: covered alone, it hides nothing.
  private static void backsCountForNothing(int view) {
    String seen = COVER_LOW + "-3:3..7 -7:3..7 " + COVER_HIGH
        + "|0:0..10 |3:3..7 |7:3..7 |10:0..10";
    bothWays(view, seen, cover(0, 1), new int[] {3, 3, 4, 4, -5, 4});
    bothWays(view, seen, cover(0, 1), new int[] {3, 3, 4, 4, -5, 5});
    bothWays(view, seen, cover(0, 1), new int[] {3, 3, 4, 4, -5, 6});
    bothWays(view, seen, cover(0, 1), new int[] {3, 3, 4, 4, -5, 7});
  }

  // "inside the rectangle of a box (not on its sides)": outside by one, on it, inside by one.
  private static void besideTheLeftSide(int view) {
    bothWays(view, COVER_LOW + "-2:-1..0 -2:0..2h -8:-1..0 -8:0..2h " + COVER_HIGH
        + "|-1:2..8 |0:0..10 |2:2..8h |10:0..10", cover(0, 3), new int[] {-1, 2, 3, 6, 5, 1});
    bothWays(view, COVER_LOW + "-2:0..3h -8:0..3h " + COVER_HIGH
        + "|0:0..10 |3:2..8h |10:0..10", cover(0, 3), new int[] {0, 2, 3, 6, 5, 1});
    bothWays(view, COVER_LOW + "-2:1..4h -8:1..4h " + COVER_HIGH
        + "|0:0..10 |1:2..8h |4:2..8h |10:0..10", cover(0, 3), new int[] {1, 2, 3, 6, 5, 1});
    // Higher than the cover by one: both sides make one stroke.
    bothWays(view, "-0:0..10 -10:0..10 -11:0..3 |0:0..11 |3:0..10h |3:10..11 |10:0..10",
        cover(0, 3), new int[] {0, 0, 3, 11, 5, 1});
  }

  private static void besideTheRightSide(int view) {
    bothWays(view, COVER_LOW + "-2:6..9h -8:6..9h " + COVER_HIGH
        + "|0:0..10 |6:2..8h |9:2..8h |10:0..10", cover(0, 3), new int[] {6, 2, 3, 6, 5, 1});
    bothWays(view, COVER_LOW + "-2:7..10h -8:7..10h " + COVER_HIGH
        + "|0:0..10 |7:2..8h |10:0..10", cover(0, 3), new int[] {7, 2, 3, 6, 5, 1});
    bothWays(view, COVER_LOW + "-2:8..10h -2:10..11 -8:8..10h -8:10..11 " + COVER_HIGH
        + "|0:0..10 |8:2..8h |10:0..10 |11:2..8", cover(0, 3), new int[] {8, 2, 3, 6, 5, 1});
    bothWays(view, "--1:7..10 -0:0..10 -10:0..10 |0:0..10 |7:-1..0 |7:0..10h |10:-1..10",
        cover(0, 3), new int[] {7, -1, 3, 11, 5, 1});
  }

  private static void coveredJustToTheSides(int view) {
    bothWays(view, "-0:0..10 -4:-3..0 -4:0..10h -4:10..13 -5:-3..0 -5:0..10h -5:10..13 -10:0..10 "
        + "|-3:4..5 |0:0..10 |10:0..10 |13:4..5", cover(0, 3), new int[] {-3, 4, 16, 1, 1, 1});
    bothWays(view, "-0:0..10 -4:0..10h -5:0..10h -10:0..10 |0:0..10 |10:0..10",
        cover(0, 3), new int[] {0, 4, 10, 1, 1, 1});
    bothWays(view, "-0:0..10 -10:0..10 |0:0..10 |10:0..10", cover(0, 3), cover(1, 1));
  }

  // "SEEN if some edge goes through it .. that is not COVERED there; HIDDEN if .. all are COVERED"
  private static void oneUncoveredEdgeIsEnough(int view) {
    String seen = "-0:0..10 -3:3..7 -4:3..7 -7:3..7h -10:0..10 "
        + "|0:0..10 |3:3..4 |3:4..7h |7:3..4 |7:4..7h |10:0..10";
    String hidden = "-0:0..10 -3:3..7h -4:3..7h -7:3..7h -10:0..10 "
        + "|0:0..10 |3:3..7h |7:3..7h |10:0..10";
    int[] behind = {3, 3, 4, 4, 5, 1};
    bothWays(view, seen, cover(0, 1), behind, new int[] {3, 3, 4, 1, -1, 1});
    bothWays(view, seen, cover(0, 1), new int[] {3, 3, 4, 1, 0, 1}, behind);
    bothWays(view, hidden, cover(0, 1), behind, new int[] {3, 3, 4, 1, 1, 1});
  }

  // "each as long as can be": apart by one, touching, overlapping by one, one within the other.
  private static void touchingStrokesJoin(int view) {
    int[] first = {0, 0, 5, 5, 0, 1};
    bothWays(view, "-0:0..5 -0:6..11 -5:0..5 -5:6..11 |0:0..5 |5:0..5 |6:0..5 |11:0..5",
        first, new int[] {6, 0, 5, 5, 0, 1});
    bothWays(view, "-0:0..10 -5:0..10 |0:0..5 |5:0..5 |10:0..5",
        first, new int[] {5, 0, 5, 5, 0, 1});
    bothWays(view, "-0:0..10 -5:0..10 |0:0..5 |5:0..5 |10:0..5",
        first, new int[] {5, 0, 5, 5, 9, 1});
    bothWays(view, "-0:0..9 -5:0..9 |0:0..5 |4:0..5 |5:0..5 |9:0..5",
        first, new int[] {4, 0, 5, 5, 0, 1});
    bothWays(view, "-0:0..9 -5:0..9 |0:0..5 |4:0..5h |5:0..5 |9:0..5",
        first, new int[] {4, 0, 5, 5, 1, 1});
    bothWays(view, "-0:0..5 -5:0..5 |0:0..5 |1:0..5 |2:0..5 |5:0..5",
        first, new int[] {1, 0, 1, 5, 0, 1});
    // Only at a corner: lines that go on, on both sides of it.
    bothWays(view, "-0:0..5 -5:0..9 -8:5..9 |0:0..5 |5:0..8 |9:5..8",
        first, new int[] {5, 5, 4, 3, 0, 1});
  }

  private static void hiddenStrokesJoin(int view) {
    int[] sheet = {-9, -9, 30, 30, -5, 1};
    int[] first = {0, 0, 5, 5, 0, 1};
    String low = "--9:-9..21 ";
    String high = "-21:-9..21 |-9:-9..21 ";
    String last = "|21:-9..21";
    bothWays(view, low + "-0:0..5h -0:6..11h -5:0..5h -5:6..11h " + high
        + "|0:0..5h |5:0..5h |6:0..5h |11:0..5h " + last, sheet, first,
        new int[] {6, 0, 5, 5, 0, 1});
    bothWays(view, low + "-0:0..10h -5:0..10h " + high + "|0:0..5h |5:0..5h |10:0..5h " + last,
        sheet, first, new int[] {5, 0, 5, 5, 2, 1});
    bothWays(view, low + "-0:0..9h -5:0..9h " + high
        + "|0:0..5h |4:0..5h |5:0..5h |9:0..5h " + last, sheet, first, new int[] {4, 0, 5, 5, 2, 1});
  }

  private static void seenAndHiddenDoNotJoin(int view) {
    int[] board = {0, 0, 10, 5, 0, 1};
    bothWays(view, "--5:-5..5 -0:0..5h -0:5..10 -5:0..5h -5:5..10 -15:-5..5 "
        + "|-5:-5..15 |0:0..5h |5:-5..15 |10:0..5", board, new int[] {-5, -5, 10, 20, -5, 1});
    bothWays(view, "--5:4..5 -0:0..4 -0:4..5h -0:5..10 -5:0..4 -5:4..5h -5:5..10 -15:4..5 "
        + "|0:0..5 |4:-5..15 |5:-5..15 |10:0..5", board, new int[] {4, -5, 1, 20, -5, 1});
  }

  // "(single places between them count for nothing)": two covers touch, or leave one free, or none.
  private static void singlePlacesBetween(int view) {
    int[] board = {0, 0, 10, 5, 0, 1};
    int[] left = {-5, -5, 10, 20, -5, 1};
    bothWays(view, "--5:-5..15 -0:0..10h -5:0..10h -15:-5..15 "
        + "|-5:-5..15 |0:0..5h |5:-5..15 |10:0..5h |15:-5..15",
        board, left, new int[] {5, -5, 10, 20, -5, 1});
    bothWays(view, "--5:-5..5 --5:6..16 -0:0..5h -0:5..6 -0:6..10h -5:0..5h -5:5..6 -5:6..10h "
        + "-15:-5..5 -15:6..16 |-5:-5..15 |0:0..5h |5:-5..15 |6:-5..15 |10:0..5h |16:-5..15",
        board, left, new int[] {6, -5, 10, 20, -5, 1});
    bothWays(view, "--5:-5..14 -0:0..10h -5:0..10h -15:-5..14 "
        + "|-5:-5..15 |0:0..5h |4:-5..15 |5:-5..15 |10:0..5h |14:-5..15",
        board, left, new int[] {4, -5, 10, 20, -5, 1});
  }

  // "first those that go across, by their place up, then by their begin; then those that go up .."
  private static void order(int view) {
    bothWays(view, "--4:8..9 --3:8..9 --1:-7..-6 --1:5..6 -0:-7..-6 -0:5..6 "
        + "|-7:-1..0 |-6:-1..0 |5:-1..0 |6:-1..0 |8:-4..-3 |9:-4..-3",
        new int[] {5, -1, 1, 1, 0, 1}, new int[] {8, -4, 1, 1, -2, 1},
        new int[] {-7, -1, 1, 1, 3, 1});
  }

  private static void negativePlaces() {
    PartDrawings x = Makers.empty();
    x.box(-3, -7, -1, 6, 4);
    BOUNDS.strokes(x, 0, "--7:-3..3 --3:-3..3 |-3:-7..-3 |3:-7..-3");
    BOUNDS.strokes(x, 3, "--1:-7..-3 -0:-7..-3 |-7:-1..0 |-3:-1..0");
  }

  // The farthest places with the greatest sizes, also where FRONT is -2000000.
  private static void farthestPlaces() {
    int most = 1000000;
    for (int view = 0; view < 6; view++) {
      PartDrawings x = Makers.empty();
      x.box(most, most, most, most, most);
      x.deep(0, most);
      x.box(-most, -most, -most, most, most);
      x.deep(1, most);
      BOUNDS.strokes(x, view, "--1000000:-1000000..0 -0:-1000000..0 -1000000:1000000..2000000 "
          + "-2000000:1000000..2000000 |-1000000:-1000000..0 |0:-1000000..0 "
          + "|1000000:1000000..2000000 |2000000:1000000..2000000");
      BOUNDS.answers(x, 8L * most, Call.ink(false));
    }
    PartDrawings y = Makers.empty();
    y.box(0, 0, most, most, most);
    y.deep(0, most);
    y.box(1, 1, most, 1, 1);
    y.deep(1, most - 1);
    y.draw(1);
    BOUNDS.answers(y, 4, Call.ink(true));
    y.deep(1, most);
    y.draw(1);
    BOUNDS.answers(y, 0, Call.ink(true));
  }

  // Twelve bars across and twelve up, before and behind one another by turns: none is lost.
  private static void mostStrokes() {
    PartDrawings x = Makers.empty();
    for (int i = 0; i < 12; i++) {
      x.box(0, 1 + 5 * i, i % 2 * 2, 62, 3);
      x.box(1 + 5 * i, 0, 1, 3, 62);
    }
    BOUNDS.answers(x, 672, Call.draw(0));
    BOUNDS.answers(x, 1, Call.command(671, 0));
    BOUNDS.answers(x, 62, Call.command(671, 1));
    BOUNDS.answers(x, 56, Call.command(671, 2));
    BOUNDS.answers(x, 59, Call.command(671, 3));
    BOUNDS.fails(x, Bounds.INDEX, Call.command(672, 0));
    BOUNDS.answers(x, 672, Call.keep());
    BOUNDS.answers(x, -1, Call.changed(0));
  }

  // 24 boxes apart, with 48 sides on each axis: all views, one after another, on one object.
  private static void mostLines() {
    PartDrawings x = Makers.empty();
    for (int i = 0; i < 24; i++) {
      x.deep(x.box(10 * i, -20 * i, 1000 + 30 * i, 2, 3), 4);
    }
    long[] inks = {24 * 10, 24 * 14, 24 * 12};
    for (int turn = 0; turn < 12; turn++) {
      int view = turn * 5 % 6;
      BOUNDS.answers(x, 96, Call.draw(view));
      BOUNDS.answers(x, inks[view / 2], Call.ink(false));
      BOUNDS.answers(x, 0, Call.ink(true));
    }
  }
}
