import java.util.function.ToLongFunction;

/** A call with its text: a test can make it on any object, and name it when it goes wrong. */
record Call(String text, ToLongFunction<PartDrawings> made) {
  static Call box(long x, long y, long z2, long w, long h) {
    return new Call("box(" + x + ", " + y + ", " + z2 + ", " + w + ", " + h + ")",
        o -> o.box(x, y, z2, w, h));
  }

  static Call deep(int box, long d) {
    return new Call("deep(" + box + ", " + d + ")", o -> Due.bit(o.deep(box, d)));
  }

  /** Answers 0 when it is done. */
  static Call explode(int part, long x, long y, long z2) {
    return new Call("explode(" + part + ", " + x + ", " + y + ", " + z2 + ")", o -> {
      o.explode(part, x, y, z2);
      return 0;
    });
  }

  static Call draw(int view) {
    return new Call("draw(" + view + ")", o -> o.draw(view));
  }

  static Call command(int k, int i) {
    return new Call("command(" + k + ", " + i + ")", o -> o.command(k, i));
  }

  static Call on(long across, long place, boolean up) {
    return new Call("on(" + across + ", " + place + ", " + up + ")", o -> o.on(across, place, up));
  }

  static Call ink(boolean hidden) {
    return new Call("ink(" + hidden + ")", o -> o.ink(hidden));
  }

  static Call measure(int a, int b, int axis) {
    return new Call("measure(" + a + ", " + b + ", " + axis + ")", o -> o.measure(a, b, axis));
  }

  static Call row(int measure) {
    return new Call("row(" + measure + ")", o -> o.row(measure));
  }

  static Call total(int axis, int row) {
    return new Call("total(" + axis + ", " + row + ")", o -> o.total(axis, row));
  }

  static Call section(int view, long at, int what) {
    return new Call("section(" + view + ", " + at + ", " + what + ")",
        o -> o.section(view, at, what));
  }

  static Call list(int k, int what) {
    return new Call("list(" + k + ", " + what + ")", o -> o.list(k, what));
  }

  static Call page(int k, int what) {
    return new Call("page(" + k + ", " + what + ")", o -> o.page(k, what));
  }

  static Call code(int part, int i) {
    return new Call("code(" + part + ", " + i + ")", o -> o.code(part, i));
  }

  static Call keep() {
    return new Call("keep()", o -> o.keep());
  }

  static Call changed(int k) {
    return new Call("changed(" + k + ")", o -> o.changed(k));
  }

  String outcome(PartDrawings on) {
    return Due.outcome(() -> made.applyAsLong(on));
  }
}
