/** Promises 5 to 8: draw, command, on, ink. */
public final class DrawTest {
  private static final Class<IllegalStateException> STATE = IllegalStateException.class;
  private static final Class<IllegalArgumentException> ARGUMENT = IllegalArgumentException.class;
  private static final Class<IndexOutOfBoundsException> INDEX = IndexOutOfBoundsException.class;

  public static void main(String[] args) {
    Due due = new Due("DrawTest");
    nothingDrawn(due);
    sixViews(due);
    wrongNumbers(due);
    alongAndAgainst(due);
    equalFrontsHideNothing(due);
    insideTheOther(due);
    joined(due);
    singlePlaces(due);
    places(due);
    farAway(due);
    due.end();
  }

  private static void strokes(Due due, PartDrawings x, int view, String want) {
    due.holds("strokes of view " + view, want, Bounds.written(x, x.draw(view)));
  }

  private static void nothingDrawn(Due due) {
    PartDrawings x = new PartDrawings(10, 10);
    due.fails("command", STATE, () -> x.command(-1, 9));
    due.fails("on", STATE, () -> x.on(0, 0, false));
    due.fails("ink seen", STATE, () -> x.ink(false));
    due.fails("ink hidden", STATE, () -> x.ink(true));
    due.is("an empty drawing", 0, () -> x.draw(5));
    due.fails("no stroke", INDEX, () -> x.command(0, 0));
    due.is("on nothing", 2, () -> x.on(0, 0, true));
    due.is("no ink", 0, () -> x.ink(true));
    x.box(0, 0, 0, 1, 1);
    due.fails("command later", STATE, () -> x.command(0, 0));
  }

  private static void sixViews(Due due) {
    PartDrawings x = new PartDrawings(10, 10);
    x.box(1, 20, 300, 4, 5);
    x.deep(0, 6);
    String alongZ = "-20:1..5 -25:1..5 |1:20..25 |5:20..25";
    String alongX = "-300:20..25 -306:20..25 |20:300..306 |25:300..306";
    String alongY = "-300:1..5 -306:1..5 |1:300..306 |5:300..306";
    strokes(due, x, 0, alongZ);
    strokes(due, x, 1, alongZ);
    strokes(due, x, 2, alongX);
    strokes(due, x, 3, alongX);
    strokes(due, x, 4, alongY);
    strokes(due, x, 5, alongY);
  }

  private static void wrongNumbers(Due due) {
    PartDrawings x = new PartDrawings(10, 10);
    x.box(0, 0, 0, 2, 3);
    int[] views = {-1, 6, Integer.MIN_VALUE, Integer.MAX_VALUE};
    for (int v : views) {
      due.fails("draw " + v, ARGUMENT, () -> x.draw(v));
    }
    due.fails("not drawn by it", STATE, () -> x.ink(false));
    x.draw(0);
    int[][] wrong = {{-1, 0}, {4, 0}, {0, -1}, {0, 5}, {Integer.MIN_VALUE, 0},
        {Integer.MAX_VALUE, 0}, {0, Integer.MIN_VALUE}, {0, Integer.MAX_VALUE}, {4, 5}};
    for (int[] w : wrong) {
      due.fails("command " + w[0] + ", " + w[1], INDEX, () -> x.command(w[0], w[1]));
    }
  }

  // A small box before a great one along each axis is hidden against it, and only there.
  private static void alongAndAgainst(Due due) {
    for (int axis = 0; axis < 3; axis++) {
      int viewAlong = axis == 2 ? 0 : axis == 0 ? 2 : 4;
      PartDrawings x = new PartDrawings(10, 10);
      x.box(0, 0, 0, 10, 10);
      x.deep(0, 10);
      long[] p = {2, 2, 2};
      p[axis] = -3;
      x.box(p[0], p[1], p[2], 3, 3);
      x.deep(1, 3);
      x.draw(viewAlong);
      due.is("seen along " + axis, 52, () -> x.ink(false));
      due.is("nothing hidden along " + axis, 0, () -> x.ink(true));
      x.draw(viewAlong + 1);
      due.is("seen against " + axis, 40, () -> x.ink(false));
      due.is("hidden against " + axis, 12, () -> x.ink(true));
    }
  }

  private static void equalFrontsHideNothing(Due due) {
    PartDrawings x = new PartDrawings(10, 10);
    x.box(0, 0, 0, 10, 10);
    x.box(2, 2, 0, 3, 3);
    x.deep(1, 9);
    x.draw(0);
    due.is("fronts alike: hidden", 0, () -> x.ink(true));
    x.draw(1);
    due.is("far sides apart: hidden", 0, () -> x.ink(true));
    x.explode(0, 0, 0, 8);
    x.draw(1);
    due.is("far sides alike: hidden", 0, () -> x.ink(true));
    x.explode(0, 0, 0, 1);
    x.draw(1);
    due.is("the great one nearer by one: hidden", 12, () -> x.ink(true));
  }

  private static void insideTheOther(Due due) {
    PartDrawings x = new PartDrawings(10, 10);
    x.box(0, 0, 0, 10, 10);
    x.deep(0, 10);
    x.box(2, 2, 2, 3, 3);
    x.deep(1, 3);
    for (int view = 0; view < 6; view++) {
      x.draw(view);
      due.is("hidden in view " + view, 12, () -> x.ink(true));
      due.is("seen in view " + view, 40, () -> x.ink(false));
    }
  }

  private static void joined(Due due) {
    PartDrawings x = new PartDrawings(10, 10);
    x.box(0, 0, 0, 5, 5);
    x.box(5, 0, 7, 5, 5);
    strokes(due, x, 0, "-0:0..10 -5:0..10 |0:0..5 |5:0..5 |10:0..5");
    x.box(3, 5, 9, 1, 1);
    strokes(due, x, 0, "-0:0..10 -5:0..10 -6:3..4 |0:0..5 |3:5..6 |4:5..6 |5:0..5 |10:0..5");
    x.box(20, 0, 0, 1, 5);
    strokes(due, x, 0, "-0:0..10 -0:20..21 -5:0..10 -5:20..21 -6:3..4 "
        + "|0:0..5 |3:5..6 |4:5..6 |5:0..5 |10:0..5 |20:0..5 |21:0..5");
  }

  // Two covers that touch: the long edge behind them is hidden but for the one place between.
  private static void singlePlaces(Due due) {
    PartDrawings x = new PartDrawings(10, 10);
    x.box(0, 0, 0, 5, 10);
    x.box(5, 0, 0, 5, 10);
    x.box(2, 4, 3, 6, 2);
    strokes(due, x, 0, "-0:0..10 -4:2..8h -6:2..8h -10:0..10 "
        + "|0:0..10 |2:4..6h |5:0..10 |8:4..6h |10:0..10");
    due.is("on the place between", 1, () -> x.on(5, 4, false));
  }

  private static void places(Due due) {
    PartDrawings x = new PartDrawings(10, 10);
    x.box(0, 0, 0, 4, 4);
    x.box(2, 1, 5, 6, 2);
    strokes(due, x, 0, "-0:0..4 -1:2..4h -1:4..8 -3:2..4h -3:4..8 -4:0..4 "
        + "|0:0..4 |2:1..3h |4:0..4 |8:1..3");
    long[][] wants = {{0, 0, 0, 0}, {4, 0, 0, 0}, {5, 0, 0, 2}, {-1, 0, 0, 2}, {2, 1, 0, 1},
        {3, 1, 0, 1}, {4, 1, 0, 0}, {8, 1, 0, 0}, {9, 1, 0, 2}, {3, 2, 0, 2}, {2, 1, 1, 1},
        {2, 3, 1, 1}, {2, 4, 1, 2}, {2, 0, 1, 2}, {8, 2, 1, 0}, {1, 8, 1, 2}, {0, 4, 1, 0},
        {0, 2, 0, 2}, {Long.MAX_VALUE, 0, 0, 2}, {0, Long.MIN_VALUE, 1, 2},
        {1L << 32, 0, 0, 2}, {0, 1L << 32, 0, 2}, {1L << 32, 0, 1, 2}};
    for (long[] w : wants) {
      due.is("on " + w[0] + ", " + w[1] + ", " + (w[2] == 1), w[3],
          () -> x.on(w[0], w[1], w[2] == 1));
    }
    due.is("hidden ink", 6, () -> x.ink(true));
    due.is("seen ink", 26, () -> x.ink(false));
  }

  private static void farAway(Due due) {
    PartDrawings x = new PartDrawings(10, 10);
    x.box(-1000000, -1000000, 1000000, 1000000, 1000000);
    x.deep(0, 1000000);
    x.box(1000000, 1000000, -1000000, 1000000, 1000000);
    x.deep(1, 1000000);
    due.is("two apart", 8, () -> x.draw(0));
    due.is("their ink", 8000000, () -> x.ink(false));
    due.is("the last line", 2000000, () -> x.command(7, 1));
    due.is("along x", 8, () -> x.draw(2));
    due.is("the last line up", 2000000, () -> x.command(3, 1));
  }
}
