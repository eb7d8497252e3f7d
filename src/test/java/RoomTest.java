import java.lang.management.ManagementFactory;

/**
 * Rule 12 of LANGUAGE.md, and the one room in which all calls of a run live: an object makes its
 * rows when it is made, and no call that is answered makes anything.
 */
public final class RoomTest {
  private static final int OBJECTS = 50;
  private static final int CALLS = 100;
  private static final long MOST_BYTES = 64 * 1024;

  private static final com.sun.management.ThreadMXBean THREADS =
      (com.sun.management.ThreadMXBean) ManagementFactory.getThreadMXBean();

  public static void main(String[] args) {
    Due due = new Due("RoomTest");
    due.holds("a count of bytes", "there", made() > 0 ? "there" : "none");
    newObjects(due);
    Call[] asked = {Call.deep(0, 4), Call.explode(1, 0, 0, 0), Call.draw(0), Call.draw(3),
        Call.command(0, 1), Call.on(0, 0, true), Call.ink(true), Call.measure(0, 0, 0), Call.row(0),
        Call.total(0, 0), Call.section(0, 1, 1), Call.section(5, 1, 0), Call.list(0, 0),
        Call.list(-1, 3), Call.page(0, 0), Call.page(0, 1), Call.page(-1, 0), Call.code(0, 3),
        Call.keep(), Call.changed(0), Call.changed(99)};
    for (Call call : asked) {
      calls(due, call);
    }
    tellingAll(due);
    due.end();
  }

  private static long made() {
    return THREADS.getCurrentThreadAllocatedBytes();
  }

  private static void fits(Due due, String what, long most, long bytes) {
    due.holds(what, "in its room", bytes <= most ? "in its room" : bytes + " bytes");
  }

  private static void newObjects(Due due) {
    Makers.empty();
    PartDrawings[] all = new PartDrawings[OBJECTS];
    long before = made();
    for (int i = 0; i < OBJECTS; i++) {
      all[i] = new PartDrawings(1, 1);
    }
    long bytes = made() - before;
    fits(due, "a new object", MOST_BYTES, bytes / OBJECTS);
  }

  private static void calls(Due due, Call call) {
    PartDrawings x = Makers.pairKept();
    // The machine itself makes some things at the first call.
    repeat(x, call);
    long before = made();
    repeat(x, call);
    long bytes = made() - before;
    fits(due, CALLS + " times " + call.text(), 0, bytes);
  }

  private static void repeat(PartDrawings x, Call call) {
    for (int i = 0; i < CALLS; i++) {
      call.made().applyAsLong(x);
    }
  }

  // The calls that take room fill what the constructor made.
  private static void tellingAll(Due due) {
    tell(Makers.empty());
    PartDrawings x = Makers.empty();
    long before = made();
    tell(x);
    long bytes = made() - before;
    fits(due, "24 boxes, 30 measures and what is drawn of them", 0, bytes);
  }

  private static void tell(PartDrawings x) {
    for (int i = 0; i < 24; i++) {
      x.box(i, -i, i, 2 + i, 30 - i);
    }
    for (int i = 0; i < 30; i++) {
      x.measure(i % 24, (i + 7) % 24, i % 3);
    }
    for (int view = 0; view < 6; view++) {
      x.draw(view);
      x.keep();
      x.section(view, view, 1);
    }
    x.list(PartDrawings.NONE, 0);
    x.code(23, 30);
  }
}
