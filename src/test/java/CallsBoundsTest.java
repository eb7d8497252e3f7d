/** "An object is used for at most 512 calls": the last of them is answered as the first one. */
public final class CallsBoundsTest {
  private static final int CALLS = 512;
  private static final Bounds BOUNDS = new Bounds("CallsBoundsTest");

  public static void main(String[] args) {
    sameCallAllAlong();
    fullObject();
    refusedAllAlong();
    objectsApart();
    BOUNDS.end();
  }

  private static void sameCallAllAlong() {
    Call[][] calls = {{Call.draw(0), Call.draw(2)}, {Call.keep(), Call.changed(0)},
        {Call.code(1, 0), Call.code(0, 5)}, {Call.list(-1, 0), Call.list(0, 0)},
        {Call.section(0, 1, 1), Call.section(5, 1, 0)}, {Call.page(-1, 0), Call.page(0, 0)}};
    long[][] wants = {{10, 8}, {10, -1}, {'W', 'D'}, {2, 12}, {80, 1}, {2, 9}};
    for (int c = 0; c < calls.length; c++) {
      PartDrawings x = Makers.pairDrawn();
      int made = 6;
      for (int i = made; i < CALLS; i++) {
        BOUNDS.answers(x, wants[c][i % 2], calls[c][i % 2]);
      }
    }
  }

  // All room taken, and every view drawn again and again until the last call.
  private static void fullObject() {
    PartDrawings x = Makers.full();
    int made = 24 + 30 + 2;
    for (int i = made; i < CALLS; i++) {
      int view = i % 6;
      BOUNDS.answers(x, view == 2 || view == 3 ? 4 : 27, Call.draw(view));
    }
  }

  private static void refusedAllAlong() {
    PartDrawings x = Makers.full();
    int made = 24 + 30 + 2;
    for (int i = made; i + 1 < CALLS; i++) {
      BOUNDS.fails(x, Bounds.STATE, i % 2 == 0 ? Call.box(0, 0, 0, 1, 1) : Call.measure(0, 1, 0));
    }
    BOUNDS.answers(x, 27, Call.keep());
  }

  // What one object holds is not seen by another one.
  private static void objectsApart() {
    PartDrawings x = Makers.full();
    PartDrawings y = Makers.empty();
    BOUNDS.fails(y, Bounds.STATE, Call.ink(false));
    BOUNDS.answers(y, 0, Call.list(-1, 0));
    BOUNDS.answers(y, 0, Call.box(5, 5, 5, 5, 5));
    y.draw(0);
    BOUNDS.fails(y, Bounds.STATE, Call.changed(0));
    BOUNDS.answers(y, 20, Call.ink(false));
    BOUNDS.fails(y, Bounds.INDEX, Call.row(0));
    BOUNDS.alike("an object beside another one", Makers.full(), x);
  }
}
