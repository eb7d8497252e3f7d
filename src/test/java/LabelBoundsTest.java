/** Bounds of promise 15, code, and of LABELS among the terms. */
public final class LabelBoundsTest {
  private static final Bounds BOUNDS = new Bounds("LabelBoundsTest");

  public static void main(String[] args) {
    noSuchBox();
    belowZero();
    shortest();
    longest();
    numbersOfDigits();
    checkDigits();
    depthsOfLabels();
    everyBoxHasItsLabel();
    asksOnly();
    BOUNDS.end();
  }

  private static PartDrawings sized(int w, int h, int d) {
    PartDrawings x = Makers.empty();
    x.deep(x.box(-3, 5, 0, w, h), d);
    return x;
  }

  /** All characters, each asked for by itself, and "NONE behind it". */
  private static void label(PartDrawings x, int part, String want) {
    for (int i = 0; i < want.length(); i++) {
      BOUNDS.answers(x, want.charAt(i), Call.code(part, i));
    }
    int[] behind = {want.length(), want.length() + 1, 100, Integer.MAX_VALUE};
    for (int i : behind) {
      BOUNDS.answers(x, PartDrawings.NONE, Call.code(part, i));
    }
  }

  // "IndexOutOfBoundsException", the first of both.
  private static void noSuchBox() {
    BOUNDS.refused(Makers::empty, Bounds.INDEX, Call.code(0, 0), Call.code(-1, 0),
        Call.code(0, -1));
    int[] wrong = {Integer.MIN_VALUE, -1, 2, 3, 24, Integer.MAX_VALUE};
    for (int p : wrong) {
      BOUNDS.refused(Makers::pairKept, Bounds.INDEX, Call.code(p, 0), Call.code(p, -1),
          Call.code(p, Integer.MAX_VALUE), Call.code(p, Integer.MIN_VALUE));
    }
    BOUNDS.refused(Makers::full, Bounds.INDEX, Call.code(24, 0), Call.code(-1, 0));
    BOUNDS.answers(Makers.full(), 'W', Call.code(23, 0));
  }

  // "IllegalArgumentException: i is below 0."
  private static void belowZero() {
    int[] wrong = {Integer.MIN_VALUE, -2, -1};
    for (int i : wrong) {
      BOUNDS.refused(Makers::pairKept, Bounds.ARGUMENT, Call.code(0, i), Call.code(1, i));
    }
  }

  private static void shortest() {
    // 1 * 2 + 1 * 4 + 1 * 6 = 12
    label(sized(1, 1, 1), 0, "W1H1D1#2");
  }

  private static void longest() {
    // 1 * 2 + 1 * 10 + 1 * 18 = 30
    label(sized(1000000, 1000000, 1000000), 0, "W1000000H1000000D1000000#0");
  }

  // From 9 to 10, from 99 to 100, .. a digit comes in, and all behind it go on by one.
  private static void numbersOfDigits() {
    // 9 * (2 + 4 + 6) = 108
    label(sized(9, 9, 9), 0, "W9H9D9#8");
    // 1 * 2 + 9 * 5 + 9 * 7 = 110
    label(sized(10, 9, 9), 0, "W10H9D9#0");
    // 9 * 2 + 1 * 4 + 9 * 7 = 85
    label(sized(9, 10, 9), 0, "W9H10D9#5");
    // 9 * 2 + 9 * 4 + 1 * 6 = 60
    label(sized(9, 9, 10), 0, "W9H9D10#0");
    // 9 * (2 + 3 + 5 + 6 + 8 + 9) = 297
    label(sized(99, 99, 99), 0, "W99H99D99#7");
    // 1 * 2 + 1 * 6 + 1 * 10 = 18
    label(sized(100, 100, 100), 0, "W100H100D100#8");
    // 9 * (27 + 69 + 111) = 1863
    label(sized(999999, 999999, 999999), 0, "W999999H999999D999999#3");
    // 1 * 2 + 1 * 9 + 1 * 16 = 27
    label(sized(100000, 100000, 100000), 0, "W100000H100000D100000#7");
  }

  // "modulo 10": sums just below a ten, at it and above it. 2 * w + 4 * h + 6 * d is even; an odd
  // one needs a digit at an odd place.
  private static void checkDigits() {
    label(sized(4, 1, 1), 0, "W4H1D1#8");
    label(sized(5, 1, 1), 0, "W5H1D1#0");
    label(sized(6, 1, 1), 0, "W6H1D1#2");
    // 1 * 2 + d * 3 + 1 * 5 + 1 * 7 = 14 + 3 * d
    String checks = "4703692581";
    for (int d = 0; d < 10; d++) {
      label(sized(10 + d, 1, 1), 0, "W1" + d + "H1D1#" + checks.charAt(d));
    }
  }

  private static void depthsOfLabels() {
    PartDrawings x = Makers.empty();
    x.box(0, 0, 0, 2, 3);
    // 2 * 2 + 3 * 4 + 1 * 6 = 22
    label(x, 0, "W2H3D1#2");
    x.deep(0, 12);
    // 2 * 2 + 3 * 4 + 1 * 6 + 2 * 7 = 36
    label(x, 0, "W2H3D12#6");
    x.deep(0, 1);
    label(x, 0, "W2H3D1#2");
    x.explode(0, 77, 77, 77);
    label(x, 0, "W2H3D1#2");
  }

  private static void everyBoxHasItsLabel() {
    PartDrawings x = Makers.empty();
    for (int i = 0; i < 24; i++) {
      x.box(0, 0, 0, 1 + i, 24 - i);
    }
    // 1 * 2 + 2 * 4 + 4 * 5 + 1 * 7 = 37
    label(x, 0, "W1H24D1#7");
    // 1 * 2 + 2 * 3 + 1 * 5 + 3 * 6 + 1 * 8 = 39
    label(x, 11, "W12H13D1#9");
    // 2 * 2 + 4 * 3 + 1 * 5 + 1 * 7 = 28
    label(x, 23, "W24H1D1#8");
  }

  private static void asksOnly() {
    PartDrawings x = Makers.pairKept();
    label(x, 0, "W10H8D4#0");
    BOUNDS.alike("an object that was asked for its labels", Makers.pairKept(), x);
  }
}
