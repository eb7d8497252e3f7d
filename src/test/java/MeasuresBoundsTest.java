/** Bounds of promises 9 to 11: measure, row, total; and of MEASURES among the terms. */
public final class MeasuresBoundsTest {
  private static final Bounds BOUNDS = new Bounds("MeasuresBoundsTest");

  public static void main(String[] args) {
    noSuchBox();
    noSuchAxis();
    samePlace();
    fromTheLesserToTheGreater();
    touchingDoesNotOverlap();
    aroundZero();
    leastFreeRow();
    everyAxisHasItsRows();
    thirtyAtMost();
    noRoom();
    placesWhenTold();
    noSuchMeasure();
    wrongRowsAndAxes();
    emptyRows();
    greatLengths();
    BOUNDS.end();
  }

  /** Boxes at these places on x; on y all are at 0, on z in reverse. */
  private static PartDrawings boxesAt(int... places) {
    PartDrawings x = Makers.empty();
    for (int p : places) {
      x.box(p, 0, -p, 1, 1);
    }
    return x;
  }

  private static void told(PartDrawings x, Call measure, int number, int row) {
    BOUNDS.answers(x, number, measure);
    BOUNDS.answers(x, row, Call.row(number));
  }

  // "IndexOutOfBoundsException", the first of the three.
  private static void noSuchBox() {
    BOUNDS.refused(Makers::empty, Bounds.INDEX, Call.measure(0, 0, 0), Call.measure(-1, -1, 0),
        Call.measure(0, 0, 3));
    int[] boxes = {Integer.MIN_VALUE, -1, 2, 24, Integer.MAX_VALUE};
    for (int b : boxes) {
      BOUNDS.refused(Makers::pairKept, Bounds.INDEX, Call.measure(b, 0, 0), Call.measure(0, b, 0),
          Call.measure(b, b, 0), Call.measure(b, 1, 3), Call.measure(1, b, -1));
    }
    BOUNDS.refused(Makers::full, Bounds.INDEX, Call.measure(24, 0, 0), Call.measure(0, 24, 0),
        Call.measure(-1, 0, 3), Call.measure(0, -1, 3));
    PartDrawings x = Makers.empty();
    for (int i = 0; i < 24; i++) {
      x.box(i, 0, 0, 1, 1);
    }
    told(x, Call.measure(0, 23, 0), 0, 0);
    told(x, Call.measure(23, 0, 0), 1, 1);
    BOUNDS.answers(x, 23, Call.total(0, 0));
  }

  // "IllegalArgumentException: another axis", also when both are the same box.
  private static void noSuchAxis() {
    int[] axes = {Integer.MIN_VALUE, -1, 3, 4, Integer.MAX_VALUE};
    for (int a : axes) {
      BOUNDS.refused(Makers::pairKept, Bounds.ARGUMENT, Call.measure(0, 1, a),
          Call.measure(1, 1, a));
    }
    PartDrawings x = boxesAt(0, 10);
    x.explode(1, 0, 10, 0);
    told(x, Call.measure(0, 1, 0), 0, 0);
    told(x, Call.measure(0, 1, 1), 1, 0);
    told(x, Call.measure(0, 1, 2), 2, 0);
  }

  // "NONE if both have the same place there": it takes no number and no row.
  private static void samePlace() {
    PartDrawings x = boxesAt(7, 7, 8, 6);
    BOUNDS.answers(x, -1, Call.measure(0, 1, 0));
    BOUNDS.answers(x, -1, Call.measure(1, 0, 0));
    BOUNDS.answers(x, -1, Call.measure(0, 0, 0));
    BOUNDS.answers(x, -1, Call.measure(0, 2, 1));
    BOUNDS.answers(x, -1, Call.measure(0, 1, 2));
    BOUNDS.fails(x, Bounds.INDEX, Call.row(0));
    told(x, Call.measure(0, 2, 0), 0, 0);
    BOUNDS.answers(x, -1, Call.measure(0, 1, 0));
    told(x, Call.measure(3, 1, 0), 1, 0);
    BOUNDS.answers(x, 2, Call.total(0, 0));
  }

  // "from the lesser to the greater of two boxes' places": whatever box is named first, and
  // whatever sizes they have.
  private static void fromTheLesserToTheGreater() {
    PartDrawings x = Makers.empty();
    x.box(10, 0, 0, 500, 1);
    x.box(-20, 0, 0, 70, 1);
    told(x, Call.measure(0, 1, 0), 0, 0);
    told(x, Call.measure(1, 0, 0), 1, 1);
    BOUNDS.answers(x, 30, Call.total(0, 0));
    BOUNDS.answers(x, 30, Call.total(0, 1));
  }

  // "(touching does not)": apart by one, touching, overlapping by one, on both sides.
  private static void touchingDoesNotOverlap() {
    int[][] besides = {{6, 2, 0}, {6, 0, 0}, {6, 3, 1}, {5, 7, 0}, {1, 7, 0}, {4, 7, 1}};
    for (int[] b : besides) {
      PartDrawings y = boxesAt(10, 20, 9, 11, 19, 21, 0, 30);
      told(y, Call.measure(0, 1, 0), 0, 0);
      told(y, Call.measure(b[0], b[1], 0), 1, b[2]);
    }
    // The same, within it, around it, with a common side.
    PartDrawings x = boxesAt(10, 20, 9, 11, 19, 21, 0, 30);
    told(x, Call.measure(0, 1, 0), 0, 0);
    told(x, Call.measure(0, 1, 0), 1, 1);
    told(x, Call.measure(3, 4, 0), 2, 2);
    told(x, Call.measure(6, 7, 0), 3, 3);
    told(x, Call.measure(0, 3, 0), 4, 2);
    told(x, Call.measure(3, 0, 0), 5, 4);
    told(x, Call.measure(4, 1, 0), 6, 2);
  }

  // Places on both sides of 0: nothing that was not told is in the way there.
  private static void aroundZero() {
    for (int axis = 0; axis < 3; axis += 2) {
      PartDrawings x = boxesAt(-20, -10, 10, 20, 0);
      told(x, Call.measure(0, 1, axis), 0, 0);
      told(x, Call.measure(1, 2, axis), 1, 0);
      told(x, Call.measure(3, 2, axis), 2, 0);
      told(x, Call.measure(1, 4, axis), 3, 1);
      told(x, Call.measure(4, 2, axis), 4, 1);
      told(x, Call.measure(0, 3, axis), 5, 2);
      BOUNDS.answers(x, 40, Call.total(axis, 0));
      BOUNDS.answers(x, 20, Call.total(axis, 1));
    }
  }

  // "the least one of that axis in which no measure that was told before overlaps it"
  private static void leastFreeRow() {
    PartDrawings x = boxesAt(0, 10, 20, 30, 40);
    told(x, Call.measure(0, 4, 0), 0, 0);
    told(x, Call.measure(0, 2, 0), 1, 1);
    told(x, Call.measure(1, 3, 0), 2, 2);
    told(x, Call.measure(2, 4, 0), 3, 1);
    told(x, Call.measure(3, 4, 0), 4, 2);
    told(x, Call.measure(0, 1, 0), 5, 2);
    told(x, Call.measure(1, 2, 0), 6, 3);
    told(x, Call.measure(0, 1, 0), 7, 3);
    BOUNDS.answers(x, 40, Call.total(0, 0));
    BOUNDS.answers(x, 40, Call.total(0, 1));
    BOUNDS.answers(x, 40, Call.total(0, 2));
    BOUNDS.answers(x, 20, Call.total(0, 3));
  }

  private static void everyAxisHasItsRows() {
    PartDrawings x = boxesAt(0, 10, 20);
    x.explode(1, 0, 5, 0);
    told(x, Call.measure(0, 1, 0), 0, 0);
    told(x, Call.measure(0, 1, 0), 1, 1);
    told(x, Call.measure(0, 1, 1), 2, 0);
    told(x, Call.measure(0, 1, 2), 3, 0);
    told(x, Call.measure(0, 2, 2), 4, 1);
    told(x, Call.measure(2, 1, 1), 5, 1);
    long[][] totals = {{10, 10, 0}, {5, 5, 0}, {10, 20, 0}};
    for (int axis = 0; axis < 3; axis++) {
      for (int row = 0; row < 3; row++) {
        BOUNDS.answers(x, totals[axis][row], Call.total(axis, row));
      }
    }
  }

  // "MEASURES, 30 at most", of all axes together; those that are NONE count for nothing.
  private static void thirtyAtMost() {
    PartDrawings x = boxesAt(0, 10);
    x.explode(1, 0, 10, 0);
    for (int i = 0; i < 30; i++) {
      BOUNDS.fails(x, Bounds.INDEX, Call.row(i));
      BOUNDS.answers(x, -1, Call.measure(i % 2, i % 2, i % 3));
      told(x, Call.measure(0, 1, i % 3), i, i / 3);
    }
    BOUNDS.fails(x, Bounds.STATE, Call.measure(0, 1, 0));
    BOUNDS.fails(x, Bounds.STATE, Call.measure(0, 1, 1));
    BOUNDS.fails(x, Bounds.STATE, Call.measure(0, 1, 2));
    BOUNDS.fails(x, Bounds.INDEX, Call.row(30));
    BOUNDS.answers(x, 9, Call.row(29));
    BOUNDS.answers(x, 10, Call.total(2, 9));
    BOUNDS.answers(x, 0, Call.total(2, 10));
    PartDrawings y = boxesAt(0, 10);
    for (int i = 0; i < 30; i++) {
      told(y, Call.measure(0, 1, 0), i, i);
    }
    BOUNDS.answers(y, 10, Call.total(0, 29));
  }

  // "there are 30 (also when both have the same place)"
  private static void noRoom() {
    BOUNDS.refused(Makers::full, Bounds.STATE, Call.measure(0, 1, 0), Call.measure(0, 0, 0),
        Call.measure(0, 1, 1), Call.measure(0, 1, 2), Call.measure(0, 1, 3),
        Call.measure(0, 1, -1), Call.measure(5, 5, Integer.MAX_VALUE));
    BOUNDS.refused(Makers::fullNotDrawn, Bounds.STATE, Call.measure(0, 1, 0));
  }

  // A measure is of the places that boxes have when it is told.
  private static void placesWhenTold() {
    PartDrawings x = boxesAt(0, 10);
    told(x, Call.measure(0, 1, 0), 0, 0);
    x.explode(0, 10, 0, 0);
    x.explode(1, 10, 0, 0);
    told(x, Call.measure(0, 1, 0), 1, 0);
    BOUNDS.answers(x, 20, Call.total(0, 0));
    x.explode(0, -1, 0, 0);
    told(x, Call.measure(0, 1, 0), 2, 1);
    BOUNDS.answers(x, 11, Call.total(0, 1));
  }

  private static void noSuchMeasure() {
    BOUNDS.refused(Makers::empty, Bounds.INDEX, Call.row(0), Call.row(-1));
    int[] wrong = {Integer.MIN_VALUE, -1, 1, 2, 29, 30, Integer.MAX_VALUE};
    for (int m : wrong) {
      BOUNDS.refused(Makers::pairKept, Bounds.INDEX, Call.row(m));
    }
    BOUNDS.refused(Makers::full, Bounds.INDEX, Call.row(-1), Call.row(30), Call.row(31));
    BOUNDS.answers(Makers.pairKept(), 0, Call.row(0));
  }

  // "IllegalArgumentException: row is below 0, or another axis."
  private static void wrongRowsAndAxes() {
    int[] rows = {Integer.MIN_VALUE, -1};
    for (int r : rows) {
      BOUNDS.refused(Makers::pairKept, Bounds.ARGUMENT, Call.total(0, r), Call.total(1, r),
          Call.total(2, r), Call.total(3, r), Call.total(-1, r));
    }
    int[] axes = {Integer.MIN_VALUE, -1, 3, Integer.MAX_VALUE};
    for (int a : axes) {
      BOUNDS.refused(Makers::empty, Bounds.ARGUMENT, Call.total(a, 0));
      BOUNDS.refused(Makers::pairKept, Bounds.ARGUMENT, Call.total(a, 0), Call.total(a, 1));
    }
  }

  private static void emptyRows() {
    PartDrawings none = Makers.empty();
    PartDrawings x = Makers.pairKept();
    for (int axis = 0; axis < 3; axis++) {
      BOUNDS.answers(none, 0, Call.total(axis, 0));
      BOUNDS.answers(x, axis == 0 ? 3 : 0, Call.total(axis, 0));
      BOUNDS.answers(x, 0, Call.total(axis, 1));
      BOUNDS.answers(x, 0, Call.total(axis, 30));
      BOUNDS.answers(x, 0, Call.total(axis, Integer.MAX_VALUE));
    }
  }

  private static void greatLengths() {
    PartDrawings x = boxesAt(-1000000, 1000000, -999999, 999999);
    told(x, Call.measure(1, 0, 0), 0, 0);
    told(x, Call.measure(2, 0, 0), 1, 1);
    told(x, Call.measure(1, 3, 0), 2, 1);
    told(x, Call.measure(3, 2, 0), 3, 1);
    told(x, Call.measure(0, 1, 2), 4, 0);
    BOUNDS.answers(x, 2000000, Call.total(0, 0));
    BOUNDS.answers(x, 2000000, Call.total(0, 1));
    BOUNDS.answers(x, 2000000, Call.total(2, 0));
  }
}
