/** Bounds of promises 16 and 17: keep, changed; and of KEPT among the terms. */
public final class KeepBoundsTest {
  private static final Bounds BOUNDS = new Bounds("KeepBoundsTest");

  public static void main(String[] args) {
    nothingDrawn();
    nothingKept();
    belowZero();
    firstToLast();
    emptyKept();
    justSo();
    lineByOne();
    beginAndEndByOne();
    hiddenOrNot();
    otherWay();
    otherView();
    goneStrokesCountForNothing();
    keptForGood();
    keptAnew();
    asksOnly();
    BOUNDS.end();
  }

  /** These numbers, in this order, and none behind them. */
  private static void changes(PartDrawings x, int... want) {
    for (int k = 0; k < want.length; k++) {
      BOUNDS.answers(x, want[k], Call.changed(k));
    }
    int[] behind = {want.length, want.length + 1, 1000, Integer.MAX_VALUE};
    for (int k : behind) {
      BOUNDS.answers(x, PartDrawings.NONE, Call.changed(k));
    }
  }

  // "IllegalStateException: .. nothing is DRAWN": what was KEPT before stays so.
  private static void nothingDrawn() {
    Call[] calls = {Call.keep(), Call.changed(0), Call.changed(-1),
        Call.changed(Integer.MIN_VALUE)};
    BOUNDS.refused(Makers::empty, Bounds.STATE, calls);
    BOUNDS.refused(Makers::pair, Bounds.STATE, calls);
    BOUNDS.refused(Makers::pairKeptNotDrawn, Bounds.STATE, calls);
    BOUNDS.refused(Makers::fullNotDrawn, Bounds.STATE, calls);
  }

  // "(or KEPT)"; it is named before a k below 0.
  private static void nothingKept() {
    Call[] calls = {Call.changed(0), Call.changed(1), Call.changed(Integer.MAX_VALUE),
        Call.changed(-1), Call.changed(Integer.MIN_VALUE)};
    BOUNDS.refused(Makers::emptyDrawn, Bounds.STATE, calls);
    BOUNDS.refused(Makers::pairDrawn, Bounds.STATE, calls);
  }

  // "IllegalArgumentException: k is below 0."
  private static void belowZero() {
    BOUNDS.refused(Makers::pairKept, Bounds.ARGUMENT, Call.changed(-1), Call.changed(-2),
        Call.changed(Integer.MIN_VALUE));
    BOUNDS.refused(Makers::full, Bounds.ARGUMENT, Call.changed(-1));
    BOUNDS.refused(() -> {
      PartDrawings x = Makers.emptyDrawn();
      x.keep();
      return x;
    }, Bounds.ARGUMENT, Call.changed(-1));
  }

  // "The number of the k-th stroke .. NONE if there are not so many": 0 is the first one.
  private static void firstToLast() {
    PartDrawings x = Makers.pairKept();
    BOUNDS.strokes(x, 0, "-0:0..10 -2:4..8h -8:0..10 -14:4..8 "
        + "|0:0..8 |4:2..8h |4:8..14 |8:2..8h |8:8..14 |10:0..8");
    changes(x, 1, 3, 5, 6, 7, 8);
    PartDrawings y = Makers.full();
    changes(y);
    y.explode(23, 0, 0, 1);
    y.draw(0);
    changes(y);
    y.explode(23, 1, 0, 0);
    // A gap from 23 to 24 breaks both lines across, and the line at 25 is new.
    BOUNDS.answers(y, 2 + 2 + 26, Call.draw(0));
    changes(y, 0, 1, 2, 3, 29);
  }

  private static void emptyKept() {
    PartDrawings x = Makers.emptyDrawn();
    BOUNDS.answers(x, 0, Call.keep());
    changes(x);
    BOUNDS.answers(x, 0, Call.draw(5));
    changes(x);
    x.box(0, 0, 0, 1, 1);
    x.draw(0);
    changes(x, 0, 1, 2, 3);
    BOUNDS.answers(x, 4, Call.keep());
    changes(x);
  }

  // Drawn anew, and moved along the view alone: each stroke is just so.
  private static void justSo() {
    PartDrawings x = Makers.pairDrawn();
    BOUNDS.answers(x, 10, Call.keep());
    changes(x);
    x.draw(0);
    changes(x);
    x.explode(1, 0, 0, 100);
    x.deep(0, 7);
    x.draw(0);
    changes(x);
  }

  private static PartDrawings keptBox(int... place) {
    PartDrawings x = Makers.empty();
    x.box(place[0], place[1], place[2], place[3], place[4]);
    x.draw(0);
    x.keep();
    return x;
  }

  // One box moved by one: lines across have another place, or another begin and end.
  private static void lineByOne() {
    int[] ways = {-1, 1};
    for (int way : ways) {
      PartDrawings x = keptBox(5, 5, 0, 3, 7);
      x.explode(0, way, 0, 0);
      x.draw(0);
      changes(x, 0, 1, 2, 3);
      x.explode(0, -way, way, 0);
      x.draw(0);
      changes(x, 0, 1, 2, 3);
      x.explode(0, 0, -way, way);
      x.draw(0);
      changes(x);
    }
  }

  // Another box makes a stroke longer by one at its begin, or at its end, and nothing else.
  private static void beginAndEndByOne() {
    PartDrawings x = keptBox(5, 5, 0, 3, 7);
    x.box(4, 5, 0, 1, 7);
    x.draw(0);
    changes(x, 0, 1, 2);
    x.keep();
    x.explode(1, 4, 0, 0);
    x.draw(0);
    changes(x, 0, 1, 4);
    PartDrawings y = keptBox(5, 5, 0, 3, 7);
    y.box(5, 12, 0, 3, 1);
    y.draw(0);
    BOUNDS.strokes(y, 0, "-5:5..8 -12:5..8 -13:5..8 |5:5..13 |8:5..13");
    changes(y, 2, 3, 4);
  }

  // The same places, now hidden, now seen again.
  private static void hiddenOrNot() {
    PartDrawings x = Makers.empty();
    x.box(0, 0, 0, 10, 10);
    x.box(2, 3, -1, 3, 4);
    x.draw(0);
    x.keep();
    x.explode(1, 0, 0, 1);
    x.draw(0);
    changes(x);
    x.explode(1, 0, 0, 1);
    x.draw(0);
    changes(x, 1, 2, 5, 6);
    BOUNDS.answers(x, 8, Call.keep());
    x.explode(1, 0, 0, -1);
    x.draw(0);
    changes(x, 1, 2, 5, 6);
  }

  // Stroke by stroke the same four numbers, but across for up: not just so.
  private static void otherWay() {
    PartDrawings x = Makers.empty();
    x.box(0, 0, 0, 2, 5);
    x.deep(0, 2);
    x.draw(0);
    x.keep();
    x.draw(2);
    changes(x, 0, 1, 2, 3);
  }

  // "that is not just so in what is KEPT": a stroke is its five numbers, whatever view it is of.
  private static void otherView() {
    PartDrawings x = Makers.empty();
    x.box(4, 4, 4, 3, 3);
    x.deep(0, 3);
    x.draw(0);
    x.keep();
    for (int view = 0; view < 6; view++) {
      x.draw(view);
      changes(x);
    }
    // Of view 2 the lines across are longer by one, and one of those that go up is elsewhere.
    PartDrawings y = Makers.empty();
    y.box(0, 0, 0, 3, 4);
    y.deep(0, 4);
    y.draw(0);
    y.keep();
    BOUNDS.strokes(y, 2, "-0:0..4 -4:0..4 |0:0..4 |4:0..4");
    changes(y, 0, 1, 3);
    BOUNDS.strokes(y, 1, "-0:0..3 -4:0..3 |0:0..4 |3:0..4");
    changes(y);
  }

  // Only strokes of what is DRAWN are told: those that are no more there have no number.
  private static void goneStrokesCountForNothing() {
    PartDrawings x = Makers.empty();
    x.box(0, 0, 0, 3, 3);
    x.box(10, 10, 0, 3, 3);
    x.draw(0);
    BOUNDS.answers(x, 8, Call.keep());
    x.explode(1, -10, -10, 0);
    BOUNDS.answers(x, 4, Call.draw(0));
    changes(x);
    BOUNDS.answers(x, 4, Call.keep());
    x.explode(1, 10, 10, 0);
    BOUNDS.answers(x, 8, Call.draw(0));
    changes(x, 2, 3, 6, 7);
  }

  // "a drawing may be KEPT": whatever is told, moved or drawn afterwards.
  private static void keptForGood() {
    PartDrawings x = keptBox(0, 0, 0, 3, 3);
    x.explode(0, 50, 50, 50);
    x.deep(0, 9);
    x.draw(0);
    x.draw(3);
    x.box(0, 0, 0, 1, 1);
    x.explode(0, -50, -50, -50);
    BOUNDS.fails(x, Bounds.STATE, Call.keep());
    x.explode(1, 0, 0, -20);
    BOUNDS.strokes(x, 0, "-0:0..3 -1:0..1 -3:0..3 |0:0..3 |1:0..1 |3:0..3");
    changes(x, 1, 4);
  }

  // What was kept before is no more: neither the strokes it had more, nor those it had less.
  private static void keptAnew() {
    PartDrawings x = Makers.empty();
    x.box(0, 0, 0, 3, 3);
    x.box(3, 0, 0, 3, 3);
    x.draw(0);
    BOUNDS.answers(x, 5, Call.keep());
    x.explode(1, -3, 0, 0);
    x.draw(0);
    changes(x, 0, 1);
    BOUNDS.answers(x, 4, Call.keep());
    changes(x);
    x.explode(1, 3, 0, 0);
    x.draw(0);
    changes(x, 0, 1, 4);
    BOUNDS.answers(x, 5, Call.keep());
    BOUNDS.answers(x, 5, Call.keep());
    changes(x);
  }

  private static void asksOnly() {
    PartDrawings x = Makers.pairKept();
    changes(x, 1, 3, 5, 6, 7, 8);
    BOUNDS.alike("an object that was asked for changes", Makers.pairKept(), x);
  }
}
