/** Promises 16 and 17: keep, changed. */
public final class KeepTest {
  private static final Class<IllegalStateException> STATE = IllegalStateException.class;
  private static final Class<IllegalArgumentException> ARGUMENT = IllegalArgumentException.class;

  public static void main(String[] args) {
    Due due = new Due("KeepTest");
    states(due);
    moved(due);
    hiddenNow(due);
    emptyOnes(due);
    otherWay(due);
    keptAnew(due);
    due.end();
  }

  private static void changes(Due due, PartDrawings x, int... want) {
    for (int k = 0; k < want.length; k++) {
      int n = k;
      due.is("changed " + n, want[n], () -> x.changed(n));
    }
    due.is("changed " + want.length, -1, () -> x.changed(want.length));
    due.is("changed far off", -1, () -> x.changed(Integer.MAX_VALUE));
  }

  private static void states(Due due) {
    PartDrawings x = new PartDrawings(10, 10);
    x.box(0, 0, 0, 3, 3);
    due.fails("keep, not drawn", STATE, () -> x.keep());
    due.fails("changed, not drawn", STATE, () -> x.changed(0));
    x.draw(0);
    due.fails("changed, not kept", STATE, () -> x.changed(0));
    due.fails("changed, not kept, below 0", STATE, () -> x.changed(-1));
    due.is("keep", 4, () -> x.keep());
    changes(due, x);
    due.fails("changed -1", ARGUMENT, () -> x.changed(-1));
    due.fails("changed far below", ARGUMENT, () -> x.changed(Integer.MIN_VALUE));
    x.explode(0, 0, 0, 0);
    due.fails("changed, not drawn any more", STATE, () -> x.changed(0));
    due.fails("changed, not drawn any more, below 0", STATE, () -> x.changed(-1));
    due.fails("keep, not drawn any more", STATE, () -> x.keep());
    x.draw(0);
    changes(due, x);
  }

  private static void moved(Due due) {
    PartDrawings x = new PartDrawings(10, 10);
    x.box(0, 0, 0, 3, 3);
    x.box(10, 0, 0, 3, 3);
    x.draw(0);
    x.keep();
    x.explode(1, 0, 1, 0);
    due.is("as many", 8, () -> x.draw(0));
    changes(due, x, 1, 3, 6, 7);
    x.explode(1, 1, -1, 0);
    due.is("as many again", 8, () -> x.draw(0));
    changes(due, x, 1, 3, 6, 7);
    x.explode(1, -1, 0, 500);
    x.draw(0);
    changes(due, x);
    x.draw(2);
    due.is("another one is kept", 8, () -> x.keep());
    changes(due, x);
    x.draw(0);
    changes(due, x, 1, 2, 3, 4, 5, 6, 7);
  }

  private static void hiddenNow(Due due) {
    PartDrawings x = new PartDrawings(10, 10);
    x.box(0, 0, 0, 10, 10);
    x.box(2, 2, -5, 3, 3);
    x.draw(0);
    x.keep();
    x.explode(1, 0, 0, 10);
    x.draw(0);
    changes(due, x, 1, 2, 5, 6);
    x.explode(1, 0, 0, -10);
    x.explode(1, 0, 0, 0);
    x.draw(0);
    changes(due, x);
    x.box(10, 0, 0, 1, 10);
    x.draw(0);
    changes(due, x, 0, 3, 8);
  }

  private static void emptyOnes(Due due) {
    PartDrawings x = new PartDrawings(10, 10);
    x.draw(0);
    due.is("keep nothing", 0, () -> x.keep());
    changes(due, x);
    x.box(0, 0, 0, 1, 1);
    x.draw(0);
    changes(due, x, 0, 1, 2, 3);
    x.keep();
    changes(due, x);
  }

  // What goes up in the one drawing lies just where in the other one something goes across.
  private static void otherWay(Due due) {
    PartDrawings x = new PartDrawings(10, 10);
    x.box(0, 0, 0, 2, 5);
    x.deep(0, 2);
    x.draw(0);
    x.keep();
    x.draw(2);
    changes(due, x, 0, 1, 2, 3);
    x.draw(0);
    changes(due, x);
  }

  // What was kept first had one stroke more: it is not to be found any more.
  private static void keptAnew(Due due) {
    PartDrawings x = new PartDrawings(10, 10);
    x.box(0, 0, 0, 3, 3);
    x.box(3, 0, 0, 3, 3);
    x.draw(0);
    due.is("keep two side by side", 5, () -> x.keep());
    x.explode(1, -3, 0, 0);
    x.draw(0);
    due.is("keep two at one place", 4, () -> x.keep());
    x.explode(1, 3, 0, 0);
    x.draw(0);
    changes(due, x, 0, 1, 4);
  }
}
