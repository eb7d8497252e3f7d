import java.util.function.Supplier;

/** Bounds of promises 1 to 4: a new object, box, deep, explode; and of BOXES among the terms. */
public final class BoxesBoundsTest {
  private static final long MOST = 1000000;
  private static final long WRAPPED = 1L << 32;

  private static final Bounds BOUNDS = new Bounds("BoxesBoundsTest");

  public static void main(String[] args) {
    widthIsTheNearest();
    heightIsTheNearest();
    placesOfBoxes();
    sizesOfBoxes();
    boxesAreNumberedAsTheyAreTold();
    noRoomForBoxes();
    depthIsOneAtFirst();
    depths();
    depthWasAnother();
    depthOfNoBox();
    boxesGoSoFar();
    boxesGoNoFarther();
    waysThatWrapAround();
    oneWrongWayStopsAll();
    explodeOfNoBox();
    measuresStay();
    BOUNDS.end();
  }

  private static void pages(int width64, int height64, int w, int h, long want) {
    PartDrawings x = new PartDrawings(width64, height64);
    x.box(0, 0, 0, w, h);
    x.draw(0);
    BOUNDS.answers(x, want, Call.page(PartDrawings.NONE, 0));
  }

  // "WIDTH and HEIGHT of pages are the nearest of 1 .. 65536."
  private static void widthIsTheNearest() {
    int[] tooSmall = {Integer.MIN_VALUE, -65536, -1, 0, 1};
    for (int width : tooSmall) {
      pages(width, 10, 3, 1, 3);
    }
    pages(2, 10, 3, 1, 2);
    pages(65535, 10, 65535, 1, 1);
    pages(65535, 10, 65536, 1, 2);
    int[] tooLarge = {65536, 65537, 131072, Integer.MAX_VALUE};
    for (int width : tooLarge) {
      pages(width, 10, 65536, 1, 1);
      pages(width, 10, 65537, 1, 2);
    }
  }

  private static void heightIsTheNearest() {
    int[] tooSmall = {Integer.MIN_VALUE, -65536, -1, 0, 1};
    for (int height : tooSmall) {
      pages(10, height, 1, 3, 3);
    }
    pages(10, 2, 1, 3, 2);
    pages(10, 65535, 1, 65535, 1);
    pages(10, 65535, 1, 65536, 2);
    int[] tooLarge = {65536, 65537, 131072, Integer.MAX_VALUE};
    for (int height : tooLarge) {
      pages(10, height, 1, 65536, 1);
      pages(10, height, 1, 65537, 2);
    }
  }

  private static Call box(int which, long number) {
    long[] n = {10, 20, 30, 4, 5};
    n[which] = number;
    return Call.box(n[0], n[1], n[2], n[3], n[4]);
  }

  // "a place is not -1000000 .. 1000000"
  private static void placesOfBoxes() {
    long[] good = {-MOST, -MOST + 1, -1, 0, 1, MOST - 1, MOST};
    long[] wrong = {Long.MIN_VALUE, -WRAPPED, -MOST - 1, MOST + 1, WRAPPED, WRAPPED + 10,
        Long.MAX_VALUE};
    for (int which = 0; which < 3; which++) {
      for (long place : good) {
        PartDrawings x = Makers.empty();
        BOUNDS.answers(x, 0, box(which, place));
        x.draw(which == 2 ? 2 : 0);
        // Lines of places up come first, then those of places across.
        int k = which == 0 ? 2 : 0;
        long far = place + new long[] {4, 5, 1}[which];
        BOUNDS.answers(x, place, Call.command(k, 1));
        BOUNDS.answers(x, far, Call.command(k + 1, 1));
      }
      for (long place : wrong) {
        BOUNDS.refused(Makers::empty, Bounds.ARGUMENT, box(which, place));
        BOUNDS.refused(Makers::pairKept, Bounds.ARGUMENT, box(which, place));
      }
    }
  }

  // "or a size not 1 .. 1000000"
  private static void sizesOfBoxes() {
    long[] good = {1, 2, MOST - 1, MOST};
    long[] wrong = {Long.MIN_VALUE, -MOST, -1, 0, MOST + 1, WRAPPED, WRAPPED + 1, Long.MAX_VALUE};
    for (int which = 3; which < 5; which++) {
      for (long size : good) {
        PartDrawings x = Makers.empty();
        BOUNDS.answers(x, 0, box(which, size));
        x.draw(0);
        int k = which == 3 ? 3 : 1;
        BOUNDS.answers(x, (which == 3 ? 10 : 20) + size, Call.command(k, 1));
      }
      for (long size : wrong) {
        BOUNDS.refused(Makers::empty, Bounds.ARGUMENT, box(which, size));
        BOUNDS.refused(Makers::pairKept, Bounds.ARGUMENT, box(which, size));
      }
    }
  }

  // "BOXES 0 .. 23 (as they are told)": a refused one takes no number.
  private static void boxesAreNumberedAsTheyAreTold() {
    PartDrawings x = Makers.empty();
    for (int i = 0; i < 24; i++) {
      BOUNDS.fails(x, Bounds.INDEX, Call.code(i, 0));
      BOUNDS.fails(x, Bounds.ARGUMENT, Call.box(0, 0, 0, 0, 1));
      BOUNDS.answers(x, i, Call.box(0, 0, 0, 1, 1));
      BOUNDS.answers(x, 'W', Call.code(i, 0));
    }
  }

  // "IllegalStateException: there are 24"; it is named first.
  private static void noRoomForBoxes() {
    BOUNDS.refused(Makers::full, Bounds.STATE, Call.box(0, 0, 0, 1, 1),
        Call.box(MOST + 1, 0, 0, 1, 1), Call.box(0, 0, 0, 1, 0),
        Call.box(Long.MIN_VALUE, Long.MIN_VALUE, Long.MIN_VALUE, 0, Long.MAX_VALUE));
    BOUNDS.refused(Makers::fullNotDrawn, Bounds.STATE, Call.box(0, 0, 0, 1, 1));
    PartDrawings x = Makers.empty();
    for (int i = 0; i < 23; i++) {
      x.box(0, 0, 0, 1, 1);
    }
    BOUNDS.fails(x, Bounds.ARGUMENT, Call.box(MOST + 1, 0, 0, 1, 1));
    BOUNDS.answers(x, 23, Call.box(0, 0, 0, 1, 1));
    BOUNDS.fails(x, Bounds.STATE, Call.box(0, 0, 0, 1, 1));
    BOUNDS.fails(x, Bounds.STATE, Call.box(0, 0, 0, 1, 1));
    BOUNDS.answers(x, 24, Call.list(0, 3));
  }

  // "A box more (d 1)"
  private static void depthIsOneAtFirst() {
    PartDrawings x = Makers.empty();
    x.box(10, 20, 30, 4, 5);
    BOUNDS.strokes(x, 2, "-30:20..25 -31:20..25 |20:30..31 |25:30..31");
    BOUNDS.answers(x, 0, Call.deep(0, 1));
  }

  // "IllegalArgumentException: it is not 1 .. 1000000."
  private static void depths() {
    long[] good = {2, 3, MOST - 1, MOST};
    for (long d : good) {
      PartDrawings x = Makers.empty();
      x.box(10, 20, 30, 4, 5);
      BOUNDS.answers(x, 1, Call.deep(0, d));
      x.draw(2);
      BOUNDS.answers(x, 30 + d, Call.command(1, 1));
    }
    long[] wrong = {Long.MIN_VALUE, -MOST, -1, 0, MOST + 1, WRAPPED, WRAPPED + 1, WRAPPED + 4,
        Long.MAX_VALUE};
    for (long d : wrong) {
      BOUNDS.refused(Makers::pairKept, Bounds.ARGUMENT, Call.deep(0, d), Call.deep(1, d));
    }
  }

  // "A box's size d: whether it was another one."
  private static void depthWasAnother() {
    PartDrawings x = Makers.empty();
    x.box(0, 0, 0, 1, 1);
    x.box(0, 0, 0, 1, 1);
    BOUNDS.answers(x, 0, Call.deep(0, 1));
    BOUNDS.answers(x, 1, Call.deep(0, 2));
    BOUNDS.answers(x, 0, Call.deep(0, 2));
    BOUNDS.answers(x, 0, Call.deep(1, 1));
    BOUNDS.answers(x, 1, Call.deep(1, MOST));
    BOUNDS.fails(x, Bounds.ARGUMENT, Call.deep(1, MOST + 1));
    BOUNDS.answers(x, 0, Call.deep(1, MOST));
    BOUNDS.answers(x, 1, Call.deep(0, 1));
    BOUNDS.answers(x, 0, Call.deep(0, 1));
  }

  // "IndexOutOfBoundsException", the first of both.
  private static void depthOfNoBox() {
    noBox(Makers::empty, -1, 0, 1);
    noBox(Makers::pairKept, Integer.MIN_VALUE, -1, 2, 23, 24, Integer.MAX_VALUE);
    noBox(Makers::full, -1, 24);
    PartDrawings x = Makers.full();
    BOUNDS.answers(x, 1, Call.deep(23, 2));
    BOUNDS.answers(x, 1, Call.deep(0, 2));
  }

  private static void noBox(Supplier<PartDrawings> maker, int... boxes) {
    for (int b : boxes) {
      BOUNDS.refused(maker, Bounds.INDEX, Call.deep(b, 1), Call.deep(b, 2), Call.deep(b, 0));
    }
  }

  private static Supplier<PartDrawings> boxAt(int axis, long place) {
    return () -> {
      PartDrawings x = Makers.empty();
      long[] p = {0, 0, 0};
      p[axis] = place;
      x.box(p[0], p[1], p[2], 4, 5);
      x.box(0, 0, 0, 1, 1);
      x.draw(0);
      x.keep();
      return x;
    };
  }

  private static Call go(int axis, long way) {
    return Call.explode(0, axis == 0 ? way : 0, axis == 1 ? way : 0, axis == 2 ? way : 0);
  }

  private static void goesTo(int axis, long from, long to) {
    PartDrawings x = boxAt(axis, from).get();
    BOUNDS.answers(x, 0, go(axis, to - from));
    long distance = Math.abs(to);
    BOUNDS.answers(x, to == 0 ? -1 : 0, Call.measure(0, 1, axis));
    BOUNDS.answers(x, distance, Call.total(axis, 0));
    BOUNDS.answers(x, -1, Call.measure(0, 1, (axis + 1) % 3));
    BOUNDS.answers(x, -1, Call.measure(0, 1, (axis + 2) % 3));
  }

  // "A box goes so far", to -1000000 and to 1000000 themselves, whatever its sizes.
  private static void boxesGoSoFar() {
    long[] starts = {-MOST, -MOST + 1, -7, 0, 7, MOST - 1, MOST};
    long[] ends = {-MOST, -MOST + 1, -1, 0, 1, MOST - 1, MOST};
    for (int axis = 0; axis < 3; axis++) {
      for (long from : starts) {
        for (long to : ends) {
          goesTo(axis, from, to);
        }
      }
    }
    PartDrawings x = boxAt(0, 5).get();
    BOUNDS.answers(x, 0, go(0, 3));
    BOUNDS.answers(x, 0, go(0, 3));
    BOUNDS.answers(x, 0, go(0, -1));
    x.draw(0);
    BOUNDS.answers(x, 0, Call.on(10, 0, true));
    BOUNDS.answers(x, 2, Call.on(9, 0, true));
    BOUNDS.answers(x, 2, Call.on(11, 0, true));
  }

  // "its place would not be -1000000 .. 1000000"
  private static void boxesGoNoFarther() {
    long[] starts = {-MOST, -MOST + 1, 0, 7, MOST - 1, MOST};
    for (int axis = 0; axis < 3; axis++) {
      for (long from : starts) {
        BOUNDS.refused(boxAt(axis, from), Bounds.ARGUMENT, go(axis, -MOST - 1 - from),
            go(axis, MOST + 1 - from));
      }
    }
  }

  // The place that would be is beyond what a long, or an int, can hold.
  private static void waysThatWrapAround() {
    long[] starts = {-MOST, -7, 0, 7, MOST};
    long[] ways = {Long.MIN_VALUE, Long.MIN_VALUE + 7, Long.MIN_VALUE + MOST, -WRAPPED,
        -WRAPPED / 2, WRAPPED / 2, WRAPPED, WRAPPED + 1, Long.MAX_VALUE - MOST, Long.MAX_VALUE - 7,
        Long.MAX_VALUE};
    for (int axis = 0; axis < 3; axis++) {
      for (long from : starts) {
        for (long way : ways) {
          BOUNDS.refused(boxAt(axis, from), Bounds.ARGUMENT, go(axis, way));
        }
      }
    }
  }

  // "A call that throws changes nothing", not on the other axes either.
  private static void oneWrongWayStopsAll() {
    BOUNDS.refused(Makers::pairKept, Bounds.ARGUMENT, Call.explode(0, MOST + 1, 1, 1),
        Call.explode(0, 1, MOST + 1, 1), Call.explode(0, 1, 1, MOST + 1),
        Call.explode(0, -MOST - 1, 1, 1), Call.explode(0, 1, -MOST - 1, 1),
        Call.explode(0, 1, 1, -MOST - 1));
  }

  private static void explodeOfNoBox() {
    BOUNDS.refused(Makers::empty, Bounds.INDEX, Call.explode(0, 0, 0, 0),
        Call.explode(-1, 0, 0, 0));
    int[] boxes = {Integer.MIN_VALUE, -1, 2, 23, 24, Integer.MAX_VALUE};
    for (int b : boxes) {
      BOUNDS.refused(Makers::pairKept, Bounds.INDEX, Call.explode(b, 0, 0, 0),
          Call.explode(b, 1, 2, 3), Call.explode(b, 0, MOST + 1, 0),
          Call.explode(b, Long.MAX_VALUE, 0, Long.MIN_VALUE));
    }
    BOUNDS.refused(Makers::full, Bounds.INDEX, Call.explode(24, 0, 0, 0),
        Call.explode(-1, 0, 0, 0));
    PartDrawings x = Makers.full();
    BOUNDS.answers(x, 0, Call.explode(23, 1, 1, 1));
    BOUNDS.answers(x, 0, Call.explode(0, 1, 1, 1));
  }

  // "(Measures stay as they were told.)"
  private static void measuresStay() {
    PartDrawings x = Makers.empty();
    x.box(0, 0, 0, 1, 1);
    x.box(10, 0, 0, 1, 1);
    x.measure(0, 1, 0);
    x.explode(1, 50, 0, 0);
    BOUNDS.answers(x, 10, Call.total(0, 0));
    BOUNDS.answers(x, 1, Call.measure(0, 1, 0));
    BOUNDS.answers(x, 1, Call.row(1));
    BOUNDS.answers(x, 60, Call.total(0, 1));
    x.explode(1, -60, 0, 0);
    BOUNDS.answers(x, -1, Call.measure(0, 1, 0));
    BOUNDS.answers(x, 10, Call.total(0, 0));
    BOUNDS.answers(x, 0, Call.row(0));
    x.explode(1, 10, 0, 0);
    x.box(70, 0, 0, 1, 1);
    BOUNDS.answers(x, 2, Call.measure(1, 2, 0));
    BOUNDS.answers(x, 0, Call.row(2));
    BOUNDS.answers(x, 70, Call.total(0, 0));
  }
}
