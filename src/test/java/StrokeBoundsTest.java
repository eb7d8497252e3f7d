/** Bounds of promises 6 to 8: command, on, ink; and of DRAWN among the terms. */
public final class StrokeBoundsTest {
  private static final long MOST = 1000000;
  private static final Bounds BOUNDS = new Bounds("StrokeBoundsTest");

  public static void main(String[] args) {
    nothingDrawn();
    noSuchStroke();
    firstAndLastStroke();
    endsOfStrokes();
    besideLines();
    seenFirst();
    singlePlaceBetweenCovers();
    farOffPlaces();
    onNothing();
    sums();
    greatSums();
    drawnUntilAnotherIs();
    drawnUntilBoxesChange();
    drawnStill();
    drawnAfterRefusals();
    BOUNDS.end();
  }

  // "IllegalStateException (first)": also when all numbers are wrong.
  private static void nothingDrawn() {
    Call[] calls = {Call.command(0, 0), Call.command(-1, 0), Call.command(0, -1),
        Call.command(0, 5), Call.command(Integer.MAX_VALUE, Integer.MIN_VALUE),
        Call.on(0, 0, false), Call.on(0, 0, true), Call.on(Long.MIN_VALUE, Long.MAX_VALUE, true),
        Call.ink(false), Call.ink(true)};
    BOUNDS.refused(Makers::empty, Bounds.STATE, calls);
    BOUNDS.refused(Makers::pair, Bounds.STATE, calls);
    BOUNDS.refused(Makers::pairKeptNotDrawn, Bounds.STATE, calls);
  }

  // "IndexOutOfBoundsException: also of i."
  private static void noSuchStroke() {
    int strokes = Makers.pairDrawn().draw(0);
    int[] wrong = {Integer.MIN_VALUE, -1, strokes, strokes + 1, Integer.MAX_VALUE};
    for (int k : wrong) {
      BOUNDS.refused(Makers::pairDrawn, Bounds.INDEX, Call.command(k, 0), Call.command(k, 4),
          Call.command(k, 5), Call.command(k, -1));
    }
    int[] wrongNumbers = {Integer.MIN_VALUE, -1, 5, 6, Integer.MAX_VALUE};
    for (int i : wrongNumbers) {
      BOUNDS.refused(Makers::pairDrawn, Bounds.INDEX, Call.command(0, i),
          Call.command(strokes - 1, i));
    }
    BOUNDS.refused(Makers::emptyDrawn, Bounds.INDEX, Call.command(0, 0), Call.command(-1, 0),
        Call.command(0, 5));
  }

  private static void stroke(PartDrawings x, int k, long... want) {
    for (int i = 0; i < want.length; i++) {
      BOUNDS.answers(x, want[i], Call.command(k, i));
    }
  }

  private static void firstAndLastStroke() {
    PartDrawings x = Makers.pairDrawn();
    BOUNDS.strokes(x, 0, "-0:0..10 -2:3..7h -8:0..10 -14:3..7 "
        + "|0:0..8 |3:2..8h |3:8..14 |7:2..8h |7:8..14 |10:0..8");
    stroke(x, 0, 0, 0, 0, 10, 0);
    stroke(x, 1, 0, 2, 3, 7, 1);
    stroke(x, 3, 0, 14, 3, 7, 0);
    stroke(x, 4, 1, 0, 0, 8, 0);
    stroke(x, 9, 1, 10, 0, 8, 0);
  }

  // "within a stroke or at its end": before it, at its begin, within, at its end, behind it.
  private static void endsOfStrokes() {
    PartDrawings x = Makers.pairDrawn();
    long[][] across = {{-1, 2}, {0, 0}, {1, 0}, {9, 0}, {10, 0}, {11, 2}};
    for (long[] a : across) {
      BOUNDS.answers(x, a[1], Call.on(a[0], 0, false));
      BOUNDS.answers(x, a[1], Call.on(a[0], 8, false));
    }
    long[][] up = {{-1, 2}, {0, 0}, {1, 0}, {7, 0}, {8, 0}, {9, 2}};
    for (long[] u : up) {
      BOUNDS.answers(x, u[1], Call.on(0, u[0], true));
      BOUNDS.answers(x, u[1], Call.on(10, u[0], true));
    }
    long[][] hidden = {{2, 2}, {3, 1}, {4, 1}, {6, 1}, {7, 1}, {8, 2}};
    for (long[] h : hidden) {
      BOUNDS.answers(x, h[1], Call.on(h[0], 2, false));
    }
  }

  private static void besideLines() {
    PartDrawings x = Makers.pairDrawn();
    long[][] places = {{5, -1}, {5, 1}, {5, 3}, {5, 7}, {5, 9}, {5, 13}, {5, 15}};
    for (long[] p : places) {
      BOUNDS.answers(x, 2, Call.on(p[0], p[1], false));
    }
    long[][] besides = {{-1, 4}, {1, 4}, {2, 4}, {4, 4}, {6, 4}, {8, 4}, {9, 4}, {11, 4}};
    for (long[] p : besides) {
      BOUNDS.answers(x, 2, Call.on(p[0], p[1], true));
    }
    // On a line of the other way, and no stroke along this one.
    BOUNDS.answers(x, 2, Call.on(0, 4, false));
    BOUNDS.answers(x, 0, Call.on(0, 4, true));
    BOUNDS.answers(x, 2, Call.on(4, 0, true));
    BOUNDS.answers(x, 0, Call.on(4, 0, false));
    BOUNDS.answers(x, 1, Call.on(4, 2, false));
    BOUNDS.answers(x, 2, Call.on(4, 2, true));
  }

  // "(SEEN first)": where a hidden stroke ends and a seen one begins, and the other way round.
  private static void seenFirst() {
    PartDrawings x = Makers.pairDrawn();
    long[][] up = {{1, 2}, {2, 1}, {7, 1}, {8, 0}, {9, 0}, {14, 0}, {15, 2}};
    for (long[] u : up) {
      BOUNDS.answers(x, u[1], Call.on(3, u[0], true));
      BOUNDS.answers(x, u[1], Call.on(7, u[0], true));
    }
    PartDrawings y = Makers.empty();
    y.box(0, 0, 0, 9, 1);
    y.box(3, -1, -1, 3, 4);
    y.draw(0);
    long[][] across = {{2, 0}, {3, 0}, {4, 1}, {5, 1}, {6, 0}, {7, 0}};
    for (long[] a : across) {
      BOUNDS.answers(y, a[1], Call.on(a[0], 0, false));
      BOUNDS.answers(y, a[1], Call.on(a[0], 1, false));
    }
  }

  // "(single places between them count for nothing)": one between two covers is within a hidden
  // stroke, and at no end of one; if a place more is free, it is at the ends of a seen one.
  private static void singlePlaceBetweenCovers() {
    for (int view = 0; view < 6; view++) {
      PartDrawings x = Makers.empty();
      Makers.seenAs(x, view, new int[] {0, 0, 5, 10}, 0, 1);
      Makers.seenAs(x, view, new int[] {5, 0, 5, 10}, 1, 1);
      Makers.seenAs(x, view, new int[] {2, 4, 6, 2}, 3, 1);
      x.draw(view);
      placesAcross(x, new long[] {4, 1, 5, 1, 6, 1});
      BOUNDS.answers(x, 0, Call.on(5, 4, true));
      PartDrawings y = Makers.empty();
      Makers.seenAs(y, view, new int[] {0, 0, 5, 10}, 0, 1);
      Makers.seenAs(y, view, new int[] {6, 0, 4, 10}, 1, 1);
      Makers.seenAs(y, view, new int[] {2, 4, 6, 2}, 3, 1);
      y.draw(view);
      placesAcross(y, new long[] {4, 1, 5, 0, 6, 0, 7, 1});
      PartDrawings z = Makers.empty();
      Makers.seenAs(z, view, new int[] {0, 0, 10, 5}, 0, 1);
      Makers.seenAs(z, view, new int[] {0, 5, 10, 5}, 1, 1);
      Makers.seenAs(z, view, new int[] {4, 2, 2, 6}, 3, 1);
      z.draw(view);
      BOUNDS.answers(z, 1, Call.on(4, 5, true));
      BOUNDS.answers(z, 1, Call.on(6, 5, true));
      BOUNDS.answers(z, 0, Call.on(4, 5, false));
    }
  }

  /** On both lines of the box behind: places across, each with what is due there. */
  private static void placesAcross(PartDrawings x, long[] places) {
    for (int i = 0; i < places.length; i += 2) {
      BOUNDS.answers(x, places[i + 1], Call.on(places[i], 4, false));
      BOUNDS.answers(x, places[i + 1], Call.on(places[i], 6, false));
    }
  }

  private static void farOffPlaces() {
    PartDrawings x = Makers.empty();
    x.box(-MOST, -MOST, 0, MOST, MOST);
    x.box(MOST, MOST, 0, MOST, MOST);
    x.draw(0);
    long[][] corners = {{-MOST, -MOST, 0}, {-MOST - 1, -MOST, 2}, {0, -MOST, 0}, {1, -MOST, 2},
        {MOST - 1, MOST, 2}, {MOST, MOST, 0}, {2 * MOST, MOST, 0}, {2 * MOST + 1, MOST, 2},
        {2 * MOST, 2 * MOST, 0}, {2 * MOST, 2 * MOST + 1, 2}};
    for (long[] c : corners) {
      BOUNDS.answers(x, c[2], Call.on(c[0], c[1], false));
      BOUNDS.answers(x, c[2], Call.on(c[1], c[0], true));
    }
    long[] far = {Long.MIN_VALUE, -(1L << 32) - MOST, (1L << 32) - MOST, 1L << 32,
        (1L << 32) + MOST, Long.MAX_VALUE};
    for (long f : far) {
      BOUNDS.answers(x, 2, Call.on(f, -MOST, false));
      BOUNDS.answers(x, 2, Call.on(-MOST, f, false));
      BOUNDS.answers(x, 2, Call.on(f, -MOST, true));
      BOUNDS.answers(x, 2, Call.on(-MOST, f, true));
      BOUNDS.answers(x, 2, Call.on(f, f, false));
      BOUNDS.answers(x, 2, Call.on(f, f, true));
    }
  }

  private static void onNothing() {
    PartDrawings x = Makers.emptyDrawn();
    BOUNDS.answers(x, 2, Call.on(0, 0, false));
    BOUNDS.answers(x, 2, Call.on(0, 0, true));
    BOUNDS.answers(x, 0, Call.ink(false));
    BOUNDS.answers(x, 0, Call.ink(true));
  }

  // "The sum of all strokes' lengths that are HIDDEN, or not"
  private static void sums() {
    PartDrawings x = Makers.pairDrawn();
    BOUNDS.answers(x, 10 + 10 + 4 + 8 + 6 + 6 + 8, Call.ink(false));
    BOUNDS.answers(x, 4 + 6 + 6, Call.ink(true));
    x.explode(1, 0, 0, -8);
    x.draw(0);
    // The nearer box covers the upper side from 3 to 7.
    BOUNDS.answers(x, 10 + 6 + 4 + 4 + 8 + 12 + 12 + 8, Call.ink(false));
    BOUNDS.answers(x, 4, Call.ink(true));
    x.explode(1, 0, 100, 0);
    x.draw(0);
    BOUNDS.answers(x, 36 + 32, Call.ink(false));
    BOUNDS.answers(x, 0, Call.ink(true));
    PartDrawings y = Makers.empty();
    y.box(0, 0, 0, 1, 1);
    y.draw(0);
    BOUNDS.answers(y, 4, Call.ink(false));
  }

  private static void greatSums() {
    PartDrawings x = Makers.empty();
    for (int i = 0; i < 24; i++) {
      x.box(2 * i, 2 * i, 0, MOST, MOST);
    }
    x.draw(0);
    BOUNDS.answers(x, 96 * MOST, Call.ink(false));
    BOUNDS.answers(x, 0, Call.ink(true));
    PartDrawings y = Makers.empty();
    y.box(-1, -1, -1, MOST, MOST);
    for (int i = 0; i < 23; i++) {
      y.box(i, i, 0, MOST / 2, MOST / 2);
    }
    y.draw(0);
    BOUNDS.answers(y, 4 * MOST, Call.ink(false));
    BOUNDS.answers(y, 23 * 2 * MOST, Call.ink(true));
  }

  // "DRAWN is a view until another one is"
  private static void drawnUntilAnotherIs() {
    PartDrawings x = Makers.pairDrawn();
    BOUNDS.answers(x, 0, Call.on(10, 8, true));
    BOUNDS.answers(x, 8, Call.draw(2));
    BOUNDS.answers(x, 2, Call.on(10, 8, true));
    BOUNDS.answers(x, 24 + 28, Call.ink(false));
    BOUNDS.answers(x, 10, Call.draw(0));
    BOUNDS.answers(x, 0, Call.on(10, 8, true));
    BOUNDS.answers(x, 10, Call.draw(0));
    BOUNDS.answers(x, 52, Call.ink(false));
  }

  // "or a box is told, exploded (also by 0), or gets another depth"
  private static void drawnUntilBoxesChange() {
    Call[] changes = {Call.box(0, 0, 0, 1, 1), Call.box(MOST, MOST, MOST, MOST, MOST),
        Call.explode(0, 1, 0, 0), Call.explode(1, 0, 1, 0), Call.explode(0, 0, 0, 1),
        Call.explode(0, 0, 0, 0), Call.explode(1, 0, 0, 0), Call.deep(0, 3), Call.deep(0, 5),
        Call.deep(1, 1), Call.deep(1, MOST)};
    for (Call change : changes) {
      PartDrawings x = Makers.pairKept();
      change.made().applyAsLong(x);
      BOUNDS.fails(x, Bounds.STATE, Call.command(0, 0));
      BOUNDS.fails(x, Bounds.STATE, Call.on(0, 0, true));
      BOUNDS.fails(x, Bounds.STATE, Call.ink(false));
      BOUNDS.fails(x, Bounds.STATE, Call.page(-1, 0));
      BOUNDS.fails(x, Bounds.STATE, Call.keep());
      BOUNDS.fails(x, Bounds.STATE, Call.changed(0));
      x.draw(5);
      BOUNDS.answers(x, 0, Call.command(0, 0));
    }
  }

  // Nothing else ends it: not the same depth, and none of the calls that only ask.
  private static void drawnStill() {
    Call[] asks = {Call.deep(0, 4), Call.deep(1, 2), Call.command(0, 0), Call.on(0, 0, true),
        Call.ink(true), Call.measure(0, 1, 1), Call.measure(0, 0, 0), Call.row(0),
        Call.total(0, 0), Call.section(2, 1, 1), Call.section(1, 1, 0), Call.list(0, 0),
        Call.list(-1, 0), Call.page(0, 0), Call.page(-1, 1), Call.code(0, 0), Call.keep(),
        Call.changed(0)};
    PartDrawings x = Makers.pairKept();
    for (Call ask : asks) {
      ask.made().applyAsLong(x);
      BOUNDS.answers(x, 52, Call.ink(false));
      BOUNDS.answers(x, 0, Call.on(8, 14, true));
      BOUNDS.fails(x, Bounds.INDEX, Call.command(10, 0));
      BOUNDS.answers(x, 10, Call.command(9, 1));
    }
  }

  private static void drawnAfterRefusals() {
    PartDrawings x = Makers.pairDrawn();
    BOUNDS.fails(x, Bounds.ARGUMENT, Call.box(0, 0, 0, 0, 1));
    BOUNDS.fails(x, Bounds.ARGUMENT, Call.deep(0, 0));
    BOUNDS.fails(x, Bounds.INDEX, Call.deep(2, 1));
    BOUNDS.fails(x, Bounds.ARGUMENT, Call.explode(0, MOST + 1, 0, 0));
    BOUNDS.fails(x, Bounds.INDEX, Call.explode(2, 0, 0, 0));
    BOUNDS.fails(x, Bounds.ARGUMENT, Call.draw(6));
    BOUNDS.answers(x, 52, Call.ink(false));
    PartDrawings y = Makers.full();
    BOUNDS.fails(y, Bounds.STATE, Call.box(0, 0, 0, 1, 1));
    BOUNDS.answers(y, 2 * 24 + 25, Call.ink(false));
  }
}
