import java.util.function.Supplier;

/** Tests at the document's bounds: calls that are answered, and calls that are refused. */
final class Bounds {
  static final Class<IllegalStateException> STATE = IllegalStateException.class;
  static final Class<IllegalArgumentException> ARGUMENT = IllegalArgumentException.class;
  static final Class<IndexOutOfBoundsException> INDEX = IndexOutOfBoundsException.class;

  private final Due due;

  Bounds(String test) {
    due = new Due(test);
  }

  void end() {
    due.end();
  }

  void answers(PartDrawings x, long want, Call call) {
    due.holds(call.text(), "" + want, call.outcome(x));
  }

  /** Just this exception, on an object that goes on being used. */
  void fails(PartDrawings x, Class<? extends RuntimeException> want, Call call) {
    due.holds(call.text(), "throws." + want.getSimpleName(), call.outcome(x));
  }

  /**
   * Each call on an object of its own: it throws just this exception, and the object tells
   * afterwards all that one tells which was spared the call.
   */
  void refused(
      Supplier<PartDrawings> maker, Class<? extends RuntimeException> want, Call... calls) {
    String spared = Probe.of(maker.get());
    for (Call call : calls) {
      PartDrawings x = maker.get();
      fails(x, want, call);
      due.holds("what is there after " + call.text(), spared, Probe.of(x));
    }
  }

  /** Both objects tell the same of all that can be learnt of them. */
  void alike(String what, PartDrawings want, PartDrawings got) {
    due.holds(what, Probe.of(want), Probe.of(got));
  }

  void strokes(PartDrawings x, int view, String want) {
    int count = x.draw(view);
    due.holds("strokes of view " + view, want, written(x, count));
    fails(x, INDEX, Call.command(count, 0));
  }

  /** Strokes: - or | with line:begin..end, and h behind those that are hidden. */
  static String written(PartDrawings x, int count) {
    StringBuilder text = new StringBuilder();
    for (int k = 0; k < count; k++) {
      text.append(x.command(k, 0) == 0 ? "-" : "|").append(x.command(k, 1)).append(':');
      text.append(x.command(k, 2)).append("..").append(x.command(k, 3));
      text.append(x.command(k, 4) == 1 ? "h " : " ");
    }
    return text.toString().trim();
  }
}
