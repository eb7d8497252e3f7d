/** Objects in the states that calls are made in. */
final class Makers {
  private Makers() {
  }

  static PartDrawings empty() {
    return new PartDrawings(20, 10);
  }

  static PartDrawings emptyDrawn() {
    PartDrawings x = empty();
    x.draw(0);
    return x;
  }

  /** Two boxes, told but not drawn, with a measure on x. */
  static PartDrawings pair() {
    PartDrawings x = empty();
    x.box(0, 0, 0, 10, 8);
    x.deep(0, 4);
    x.box(3, 2, 7, 4, 12);
    x.deep(1, 2);
    x.measure(0, 1, 0);
    return x;
  }

  static PartDrawings pairDrawn() {
    PartDrawings x = pair();
    x.draw(0);
    return x;
  }

  /** Drawn and kept; then a box is moved, and the same view drawn again. */
  static PartDrawings pairKept() {
    PartDrawings x = pairDrawn();
    x.keep();
    x.explode(1, 1, 0, 0);
    x.draw(0);
    return x;
  }

  /** Kept, but drawn no more. */
  static PartDrawings pairKeptNotDrawn() {
    PartDrawings x = pairKept();
    x.explode(0, 0, 0, 0);
    return x;
  }

  /** No room for a box or a measure more; drawn and kept. */
  static PartDrawings full() {
    PartDrawings x = empty();
    for (int i = 0; i < 24; i++) {
      x.box(i, 0, 0, 1, 1);
    }
    for (int i = 0; i < 30; i++) {
      x.measure(0, 1 + i % 23, 0);
    }
    x.draw(0);
    x.keep();
    return x;
  }

  static PartDrawings fullNotDrawn() {
    PartDrawings x = full();
    x.explode(0, 0, 0, 0);
    return x;
  }

  /** A box told as it is seen: its rectangle's left and lower side, width, height; FRONT, depth. */
  static int seenAs(PartDrawings x, int view, int[] rectangle, int front, int depth) {
    int along = new int[] {2, 2, 0, 0, 1, 1}[view];
    int across = along == 0 ? 1 : 0;
    int up = along == 2 ? 1 : 2;
    int[] place = new int[3];
    int[] size = new int[3];
    place[across] = rectangle[0];
    place[up] = rectangle[1];
    place[along] = view % 2 == 0 ? front : -front - depth;
    size[across] = rectangle[2];
    size[up] = rectangle[3];
    size[along] = depth;
    int box = x.box(place[0], place[1], place[2], size[0], size[1]);
    x.deep(box, size[2]);
    return box;
  }
}
