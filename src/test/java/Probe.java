import java.util.function.IntFunction;

/**
 * All that can be learnt of an object, in one text: what it answers as it stands, then what it
 * draws, then how much room it has left. The object is another one afterwards.
 */
final class Probe {
  private static final int MOST_CALLS = 420;

  private final PartDrawings object;
  private final StringBuilder text = new StringBuilder();
  private int calls;

  private Probe(PartDrawings object) {
    this.object = object;
  }

  static String of(PartDrawings object) {
    Probe probe = new Probe(object);
    probe.asItStands();
    probe.drawnAnew(0);
    probe.drawnAnew(2);
    probe.roomLeft();
    // The document says nothing of calls beyond the 512th: what they tell is no evidence.
    if (probe.calls > MOST_CALLS) {
      throw new AssertionError("a probe of " + probe.calls + " calls");
    }
    return probe.text.toString();
  }

  private void asItStands() {
    strokes(5);
    ask(Call.ink(false));
    ask(Call.ink(true));
    ask(Call.page(-1, 0));
    ask(Call.page(0, 0));
    ask(Call.page(0, 1));
    askWhile(k -> Call.changed(k));
    askWhile(k -> Call.row(k));
    for (int i = 0; i < 6; i++) {
      ask(Call.total(i % 3, i / 3));
    }
    askWhile(k -> Call.list(k, 3));
    ask(Call.list(0, 0));
    ask(Call.section(0, 1, 1));
    askWhile(i -> Call.code(0, i));
    askWhile(i -> Call.code(1, i));
  }

  private void drawnAnew(int view) {
    ask(Call.draw(view));
    strokes(4);
    askWhile(k -> Call.changed(k));
  }

  private void roomLeft() {
    askWhile(k -> Call.box(k, 0, 0, 1, 1));
    askWhile(k -> Call.measure(0, 1, 0));
  }

  private void strokes(int numbers) {
    boolean isThere = true;
    for (int k = 0; isThere; k++) {
      for (int i = 0; i < numbers && isThere; i++) {
        isThere = ask(Call.command(k, i));
      }
    }
  }

  private void askWhile(IntFunction<Call> call) {
    int k = 0;
    while (ask(call.apply(k))) {
      k++;
    }
  }

  /** Whether there may be more: not if it threw or answered NONE. */
  private boolean ask(Call call) {
    calls++;
    String got = call.outcome(object);
    text.append(call.text()).append(' ').append(got).append('\n');
    return !got.startsWith("throws.") && !got.equals("-1");
  }
}
