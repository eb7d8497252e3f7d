/**
 * Drawings of furniture made of boxes: views in strokes, measures, sections, a cut list, pages
 * and labels. The promises named in the comments are those of DOC.md.
 */
public final class PartDrawings {
  public static final int NONE = -1;

  private static final int MOST_BOXES = 24;
  private static final int MOST_SIDES = 2 * MOST_BOXES;
  private static final int MOST_MEASURES = 30;
  private static final int FARTHEST = 1000000;
  private static final int GREATEST = 1000000;
  private static final int GREATEST_PAGE = 65536;
  private static final int MOST_COUNTED = 2147483647;

  // A stroke begins where one of the 4 * 24 sides begins, or on a side: where another box's side
  // crosses it or one on the same line ends, at 4 places of two boxes at most: 96 + 276 * 4.
  private static final int MOST_STROKES = 1200;

  private static final int AXES = 3;
  private static final int AXIS_X = 0;
  private static final int AXIS_Y = 1;
  private static final int AXIS_Z = 2;
  private static final int VIEWS = 6;

  private static final int ACROSS = 0;
  private static final int UP = 1;
  private static final int WAYS = 2;

  // The face answers these numbers; SEEN goes before HIDDEN, and both before NO_LINE.
  private static final int SEEN = 0;
  private static final int HIDDEN = 1;
  private static final int NO_LINE = 2;

  private final Boxes boxes;
  private final Rectangles rectangles;
  private final Tracer tracer;
  private final Strokes drawn;
  private final Strokes kept;
  private final Measures measures;
  private final CutList cutList;
  private final Pages pages;
  private final Label label;

  public PartDrawings(int width64, int height64) {
    boxes = new Boxes();
    rectangles = new Rectangles();
    tracer = new Tracer();
    drawn = new Strokes();
    kept = new Strokes();
    measures = new Measures();
    cutList = new CutList();
    pages = new Pages(width64, height64);
    label = new Label();
  }

  public int box(long x, long y, long z2, long w, long h)
      throws IllegalStateException, IllegalArgumentException {
    if (boxes.count >= MOST_BOXES) {
      throw new IllegalStateException("there are 24 boxes");
    }
    if (!isPlace(x) || !isPlace(y) || !isPlace(z2)) {
      throw new IllegalArgumentException("a place is not -1000000 .. 1000000");
    }
    if (!isSize(w) || !isSize(h)) {
      throw new IllegalArgumentException("a size is not 1 .. 1000000");
    }
    int added = boxes.count;
    boxes.count++;
    boxes.setPlaces(added, (int) x, (int) y, (int) z2);
    boxes.setSizes(added, (int) w, (int) h, 1);
    drawn.there = false;
    return added;
  }

  public boolean deep(int box, long d) throws IndexOutOfBoundsException, IllegalArgumentException {
    needBox(box);
    if (!isSize(d)) {
      throw new IllegalArgumentException("a size is not 1 .. 1000000");
    }
    if (boxes.size[AXIS_Z][box] == d) {
      return false;
    }
    boxes.size[AXIS_Z][box] = (int) d;
    drawn.there = false;
    return true;
  }

  public void explode(int part, long x, long y, long z2)
      throws IndexOutOfBoundsException, IllegalArgumentException {
    needBox(part);
    if (!boxes.canGo(part, AXIS_X, x) || !boxes.canGo(part, AXIS_Y, y)
        || !boxes.canGo(part, AXIS_Z, z2)) {
      throw new IllegalArgumentException("a place would not be -1000000 .. 1000000");
    }
    boxes.place[AXIS_X][part] += (int) x;
    boxes.place[AXIS_Y][part] += (int) y;
    boxes.place[AXIS_Z][part] += (int) z2;
    drawn.there = false;
  }

  public int draw(int view) throws IllegalArgumentException {
    needView(view);
    rectangles.takeAll(boxes, view);
    tracer.trace(rectangles, drawn);
    return drawn.count;
  }

  public long command(int k, int i) throws IllegalStateException, IndexOutOfBoundsException {
    needDrawn();
    if (k < 0 || k >= drawn.count || i < 0 || i > 4) {
      throw new IndexOutOfBoundsException("there is no such stroke, or no such number of it");
    }
    return drawn.number(k, i);
  }

  public int on(long across, long place, boolean up) throws IllegalStateException {
    needDrawn();
    return up ? drawn.stateAt(UP, across, place) : drawn.stateAt(ACROSS, place, across);
  }

  public long ink(boolean hidden) throws IllegalStateException {
    needDrawn();
    return drawn.lengthOf(hidden ? HIDDEN : SEEN);
  }

  public int measure(int a, int b, int axis)
      throws IndexOutOfBoundsException, IllegalStateException, IllegalArgumentException {
    needBox(a);
    needBox(b);
    if (measures.count >= MOST_MEASURES) {
      throw new IllegalStateException("there are 30 measures");
    }
    needAxis(axis);
    int one = boxes.place[axis][a];
    int other = boxes.place[axis][b];
    return one == other ? NONE : measures.add(axis, Math.min(one, other), Math.max(one, other));
  }

  public int row(int measure) throws IndexOutOfBoundsException {
    if (measure < 0 || measure >= measures.count) {
      throw new IndexOutOfBoundsException("there is no such measure");
    }
    return measures.rowOf[measure];
  }

  public long total(int axis, int row) throws IllegalArgumentException {
    if (row < 0) {
      throw new IllegalArgumentException("a row is below 0");
    }
    needAxis(axis);
    return measures.lengthOf(axis, row);
  }

  public long section(int view, long at, int what) throws IllegalArgumentException {
    needView(view);
    if (what < 0 || what > 1) {
      throw new IllegalArgumentException("a section has but a number and an area");
    }
    rectangles.takeCut(boxes, view, at);
    return what == 0 ? rectangles.count : rectangles.area();
  }

  public long list(int k, int what) throws IndexOutOfBoundsException, IllegalArgumentException {
    cutList.gather(boxes);
    if (k != NONE && (k < 0 || k >= cutList.count)) {
      throw new IndexOutOfBoundsException("there is no such line");
    }
    if (what < 0 || what > 3) {
      throw new IllegalArgumentException("a line has but three sizes and a number of boxes");
    }
    return k == NONE ? cutList.count : cutList.number(k, what);
  }

  public int page(int k, int what)
      throws IllegalStateException, IndexOutOfBoundsException, IllegalArgumentException {
    needDrawn();
    pages.layOver(drawn);
    if (k != NONE && (k < 0 || k >= pages.count())) {
      throw new IndexOutOfBoundsException("there is no such page");
    }
    if (what < 0 || what > 1) {
      throw new IllegalArgumentException("a page has but strokes and marks");
    }
    if (k == NONE) {
      return (int) Math.min(pages.count(), MOST_COUNTED);
    }
    pages.turnTo(k);
    return what == 0 ? pages.strokesOn(drawn) : pages.marks(drawn);
  }

  public int code(int part, int i) throws IndexOutOfBoundsException, IllegalArgumentException {
    needBox(part);
    if (i < 0) {
      throw new IllegalArgumentException("a character's number is below 0");
    }
    label.write(boxes.size[AXIS_X][part], boxes.size[AXIS_Y][part], boxes.size[AXIS_Z][part]);
    return label.character(i);
  }

  public int keep() throws IllegalStateException {
    needDrawn();
    kept.copy(drawn);
    return kept.count;
  }

  public int changed(int k) throws IllegalStateException, IllegalArgumentException {
    needDrawn();
    if (!kept.there) {
      throw new IllegalStateException("nothing is kept");
    }
    if (k < 0) {
      throw new IllegalArgumentException("a stroke's number is below 0");
    }
    return drawn.strokeNotIn(kept, k);
  }

  private void needBox(int box) {
    if (box < 0 || box >= boxes.count) {
      throw new IndexOutOfBoundsException("there is no such box");
    }
  }

  private void needDrawn() {
    if (!drawn.there) {
      throw new IllegalStateException("nothing is drawn");
    }
  }

  private static void needAxis(int axis) {
    if (axis < 0 || axis >= AXES) {
      throw new IllegalArgumentException("there is no such axis");
    }
  }

  private static void needView(int view) {
    if (view < 0 || view >= VIEWS) {
      throw new IllegalArgumentException("there is no such view");
    }
  }

  private static boolean isPlace(long place) {
    return place >= -FARTHEST && place <= FARTHEST;
  }

  private static boolean isSize(long size) {
    return size >= 1 && size <= GREATEST;
  }

  private static int depthAxis(int view) {
    if (view < 2) {
      return AXIS_Z;
    }
    return view < 4 ? AXIS_X : AXIS_Y;
  }

  private static boolean isAlong(int view) {
    return view % 2 == 0;
  }

  /** The boxes that were told; whoever asks for one has tested its number. */
  private static final class Boxes {
    final int[][] place = new int[AXES][MOST_BOXES];
    final int[][] size = new int[AXES][MOST_BOXES];
    int count;

    void setPlaces(int box, int x, int y, int z) {
      place[AXIS_X][box] = x;
      place[AXIS_Y][box] = y;
      place[AXIS_Z][box] = z;
    }

    void setSizes(int box, int w, int h, int d) {
      size[AXIS_X][box] = w;
      size[AXIS_Y][box] = h;
      size[AXIS_Z][box] = d;
    }

    int near(int box, int axis) {
      return place[axis][box];
    }

    int far(int box, int axis) {
      return place[axis][box] + size[axis][box];
    }

    // The way is held against what is left of the room, since place + way may wrap around.
    boolean canGo(int box, int axis, long way) {
      return way >= -FARTHEST - place[axis][box] && way <= FARTHEST - place[axis][box];
    }

    boolean hasInside(int box, int axis, long at) {
      return near(box, axis) < at && at < far(box, axis);
    }
  }

  /** Places in their order, each one once. */
  private static final class Cuts {
    final int[] places = new int[MOST_SIDES];
    int count;

    void put(int place) {
      int at = 0;
      while (at < count && places[at] < place) {
        at++;
      }
      boolean known = at < count && places[at] == place;
      if (known || count >= MOST_SIDES) {
        return;
      }
      for (int i = count; i > at; i--) {
        places[i] = places[i - 1];
      }
      places[at] = place;
      count++;
    }

    void gather(Rectangles rectangles, int way) {
      count = 0;
      for (int i = 0; i < rectangles.count; i++) {
        put(rectangles.from[way][i]);
        put(rectangles.to[way][i]);
      }
    }
  }

  /** Rectangles of boxes in a view: all of them, or those of a section. */
  private static final class Rectangles {
    final int[][] from = new int[WAYS][MOST_BOXES];
    final int[][] to = new int[WAYS][MOST_BOXES];
    final int[] front = new int[MOST_BOXES];
    int count;
    private final Cuts cutsAcross = new Cuts();
    private final Cuts cutsUp = new Cuts();

    void takeAll(Boxes boxes, int view) {
      count = 0;
      for (int i = 0; i < boxes.count; i++) {
        put(boxes, i, view);
      }
    }

    void takeCut(Boxes boxes, int view, long at) {
      count = 0;
      for (int i = 0; i < boxes.count; i++) {
        if (boxes.hasInside(i, depthAxis(view), at)) {
          put(boxes, i, view);
        }
      }
    }

    private void put(Boxes boxes, int box, int view) {
      int depth = depthAxis(view);
      int across = depth == AXIS_X ? AXIS_Y : AXIS_X;
      int up = depth == AXIS_Z ? AXIS_Y : AXIS_Z;
      from[ACROSS][count] = boxes.near(box, across);
      to[ACROSS][count] = boxes.far(box, across);
      from[UP][count] = boxes.near(box, up);
      to[UP][count] = boxes.far(box, up);
      front[count] = isAlong(view) ? boxes.near(box, depth) : -boxes.far(box, depth);
      count++;
    }

    boolean spans(int rectangle, int way, int begin, int end) {
      return from[way][rectangle] <= begin && end <= to[way][rectangle];
    }

    long area() {
      cutsAcross.gather(this, ACROSS);
      cutsUp.gather(this, UP);
      long sum = 0;
      for (int i = 0; i + 1 < cutsAcross.count; i++) {
        int begin = cutsAcross.places[i];
        int end = cutsAcross.places[i + 1];
        sum += (long) (end - begin) * heightBetween(begin, end);
      }
      return sum;
    }

    private long heightBetween(int begin, int end) {
      long sum = 0;
      for (int i = 0; i + 1 < cutsUp.count; i++) {
        int low = cutsUp.places[i];
        int high = cutsUp.places[i + 1];
        if (isFilled(begin, end, low, high)) {
          sum += high - low;
        }
      }
      return sum;
    }

    private boolean isFilled(int begin, int end, int low, int high) {
      for (int i = 0; i < count; i++) {
        if (spans(i, ACROSS, begin, end) && spans(i, UP, low, high)) {
          return true;
        }
      }
      return false;
    }
  }

  /**
   * Turns rectangles into strokes. Between two cuts that follow one another a line is the same
   * all along, so one test serves for all of its places there. Edges at the BACK are left out:
   * each lies on one at the FRONT, and what covers that one covers it, too.
   */
  private static final class Tracer {
    private final Cuts lines = new Cuts();
    private final Cuts cuts = new Cuts();
    private final int[] edges = new int[MOST_BOXES];
    private int edgeCount;

    void trace(Rectangles rectangles, Strokes strokes) {
      strokes.clear();
      traceWay(rectangles, ACROSS, strokes);
      traceWay(rectangles, UP, strokes);
      strokes.there = true;
    }

    private void traceWay(Rectangles rectangles, int way, Strokes strokes) {
      lines.gather(rectangles, otherWay(way));
      cuts.gather(rectangles, way);
      for (int i = 0; i < lines.count; i++) {
        gatherEdges(rectangles, way, lines.places[i]);
        traceLine(rectangles, way, lines.places[i], strokes);
      }
    }

    // A line has few edges: finding them once spares a look at every box at every cut.
    private void gatherEdges(Rectangles rectangles, int way, int line) {
      int beside = otherWay(way);
      edgeCount = 0;
      for (int i = 0; i < rectangles.count; i++) {
        if (rectangles.from[beside][i] == line || rectangles.to[beside][i] == line) {
          edges[edgeCount] = i;
          edgeCount++;
        }
      }
    }

    private void traceLine(Rectangles rectangles, int way, int line, Strokes strokes) {
      int state = NO_LINE;
      int begin = 0;
      for (int i = 0; i < cuts.count; i++) {
        int next = i + 1 < cuts.count ? stateFrom(rectangles, way, line, i) : NO_LINE;
        if (next == state) {
          continue;
        }
        if (state != NO_LINE) {
          strokes.add(way, line, begin, cuts.places[i], state);
        }
        state = next;
        begin = cuts.places[i];
      }
    }

    private int stateFrom(Rectangles rectangles, int way, int line, int cut) {
      int begin = cuts.places[cut];
      int end = cuts.places[cut + 1];
      int state = NO_LINE;
      for (int i = 0; i < edgeCount; i++) {
        if (rectangles.spans(edges[i], way, begin, end)) {
          if (!isCovered(rectangles, edges[i], way, line, begin, end)) {
            return SEEN;
          }
          state = HIDDEN;
        }
      }
      return state;
    }

    private boolean isCovered(
        Rectangles rectangles, int edge, int way, int line, int begin, int end) {
      int beside = otherWay(way);
      for (int i = 0; i < rectangles.count; i++) {
        if (rectangles.front[i] < rectangles.front[edge]
            && rectangles.from[beside][i] < line
            && line < rectangles.to[beside][i]
            && rectangles.spans(i, way, begin, end)) {
          return true;
        }
      }
      return false;
    }

    private static int otherWay(int way) {
      return way == ACROSS ? UP : ACROSS;
    }
  }

  /** A drawing: first the strokes that go across, then those that go up, each by line and begin. */
  private static final class Strokes {
    boolean there;
    int count;
    int acrossCount;
    final int[] line = new int[MOST_STROKES];
    final int[] begin = new int[MOST_STROKES];
    final int[] end = new int[MOST_STROKES];
    final int[] state = new int[MOST_STROKES];

    void clear() {
      count = 0;
      acrossCount = 0;
    }

    void add(int way, int atLine, int from, int to, int toldState) {
      if (count >= MOST_STROKES) {
        return;
      }
      line[count] = atLine;
      begin[count] = from;
      end[count] = to;
      state[count] = toldState;
      count++;
      if (way == ACROSS) {
        acrossCount = count;
      }
    }

    void copy(Strokes other) {
      System.arraycopy(other.line, 0, line, 0, other.count);
      System.arraycopy(other.begin, 0, begin, 0, other.count);
      System.arraycopy(other.end, 0, end, 0, other.count);
      System.arraycopy(other.state, 0, state, 0, other.count);
      count = other.count;
      acrossCount = other.acrossCount;
      there = other.there;
    }

    int wayOf(int k) {
      return k < acrossCount ? ACROSS : UP;
    }

    long number(int k, int i) {
      switch (i) {
        case 0:
          return wayOf(k);
        case 1:
          return line[k];
        case 2:
          return begin[k];
        case 3:
          return end[k];
        default:
          return state[k];
      }
    }

    int stateAt(int way, long atLine, long at) {
      int found = NO_LINE;
      for (int k = 0; k < count; k++) {
        if (wayOf(k) == way && line[k] == atLine && begin[k] <= at && at <= end[k]) {
          found = Math.min(found, state[k]);
        }
      }
      return found;
    }

    long lengthOf(int wanted) {
      long sum = 0;
      for (int k = 0; k < count; k++) {
        if (state[k] == wanted) {
          sum += end[k] - begin[k];
        }
      }
      return sum;
    }

    // Both drawings are in the same order, so one walk through the other one is enough.
    int strokeNotIn(Strokes other, int k) {
      int at = 0;
      int found = 0;
      for (int i = 0; i < count; i++) {
        while (at < other.count && compare(other, at, i) < 0) {
          at++;
        }
        if (at < other.count && compare(other, at, i) == 0
            && other.end[at] == end[i] && other.state[at] == state[i]) {
          continue;
        }
        if (found == k) {
          return i;
        }
        found++;
      }
      return NONE;
    }

    private int compare(Strokes other, int at, int i) {
      if (other.wayOf(at) != wayOf(i)) {
        return Integer.compare(other.wayOf(at), wayOf(i));
      }
      if (other.line[at] != line[i]) {
        return Integer.compare(other.line[at], line[i]);
      }
      return Integer.compare(other.begin[at], begin[i]);
    }

    boolean goesBothWays() {
      return acrossCount > 0 && acrossCount < count;
    }

    // Lines are in order, and a box has sides both ways: the outermost lines are the outermost
    // places. Asked only if there are strokes both ways.
    int leastAcross() {
      return line[acrossCount];
    }

    int greatestAcross() {
      return line[count - 1];
    }

    int leastUp() {
      return line[0];
    }

    int greatestUp() {
      return line[acrossCount - 1];
    }
  }

  /** Measures of all axes, in the order in which they were told. */
  private static final class Measures {
    final int[] rowOf = new int[MOST_MEASURES];
    int count;
    private final int[] axisOf = new int[MOST_MEASURES];
    private final int[] from = new int[MOST_MEASURES];
    private final int[] to = new int[MOST_MEASURES];

    int add(int axis, int least, int greatest) {
      if (count >= MOST_MEASURES) {
        return NONE;
      }
      rowOf[count] = freeRow(axis, least, greatest);
      axisOf[count] = axis;
      from[count] = least;
      to[count] = greatest;
      count++;
      return count - 1;
    }

    // So many measures fill at most so many rows: the next one is free in any case.
    private int freeRow(int axis, int least, int greatest) {
      for (int r = 0; r < count; r++) {
        if (isFree(axis, r, least, greatest)) {
          return r;
        }
      }
      return count;
    }

    private boolean isFree(int axis, int inRow, int least, int greatest) {
      for (int i = 0; i < count; i++) {
        if (isIn(i, axis, inRow) && from[i] < greatest && least < to[i]) {
          return false;
        }
      }
      return true;
    }

    private boolean isIn(int i, int axis, int inRow) {
      return axisOf[i] == axis && rowOf[i] == inRow;
    }

    long lengthOf(int axis, int inRow) {
      long sum = 0;
      for (int i = 0; i < count; i++) {
        if (isIn(i, axis, inRow)) {
          sum += to[i] - from[i];
        }
      }
      return sum;
    }
  }

  /** The lines of the cut list, made anew from the boxes whenever it is asked for. */
  private static final class CutList {
    int count;
    private final int[] first = new int[MOST_BOXES];
    private final int[] second = new int[MOST_BOXES];
    private final int[] third = new int[MOST_BOXES];
    private final int[] alike = new int[MOST_BOXES];

    void gather(Boxes boxes) {
      count = 0;
      for (int i = 0; i < boxes.count; i++) {
        int w = boxes.size[AXIS_X][i];
        int h = boxes.size[AXIS_Y][i];
        int d = boxes.size[AXIS_Z][i];
        int most = Math.max(w, Math.max(h, d));
        int least = Math.min(w, Math.min(h, d));
        put(most, w + h + d - most - least, least);
      }
    }

    private void put(int most, int middle, int least) {
      int at = 0;
      while (at < count && compare(at, most, middle, least) > 0) {
        at++;
      }
      if (at < count && compare(at, most, middle, least) == 0) {
        alike[at]++;
        return;
      }
      if (count >= MOST_BOXES) {
        return;
      }
      makeRoom(at);
      first[at] = most;
      second[at] = middle;
      third[at] = least;
      alike[at] = 1;
    }

    private void makeRoom(int at) {
      for (int i = count; i > at; i--) {
        first[i] = first[i - 1];
        second[i] = second[i - 1];
        third[i] = third[i - 1];
        alike[i] = alike[i - 1];
      }
      count++;
    }

    private int compare(int at, int most, int middle, int least) {
      if (first[at] != most) {
        return Integer.compare(first[at], most);
      }
      if (second[at] != middle) {
        return Integer.compare(second[at], middle);
      }
      return Integer.compare(third[at], least);
    }

    long number(int k, int what) {
      switch (what) {
        case 0:
          return first[k];
        case 1:
          return second[k];
        case 2:
          return third[k];
        default:
          return alike[k];
      }
    }
  }

  /** The pages over a drawing, one of them turned to. Numbers of pages may be beyond an int. */
  private static final class Pages {
    private final int width;
    private final int height;
    private long columns;
    private long rows;
    private long originAcross;
    private long originUp;
    private long left;
    private long right;
    private long lower;
    private long upper;
    private boolean isTop;

    Pages(int width64, int height64) {
      width = Math.max(1, Math.min(GREATEST_PAGE, width64));
      height = Math.max(1, Math.min(GREATEST_PAGE, height64));
    }

    void layOver(Strokes strokes) {
      columns = 1;
      rows = 1;
      originAcross = 0;
      originUp = 0;
      if (strokes.goesBothWays()) {
        originAcross = strokes.leastAcross();
        originUp = strokes.leastUp();
        columns = pagesFor(strokes.greatestAcross() - originAcross, width);
        rows = pagesFor(strokes.greatestUp() - originUp, height);
      }
    }

    private static long pagesFor(long length, int each) {
      return each < 1 ? 1 : Math.max(1, (length + each - 1) / each);
    }

    long count() {
      return columns * rows;
    }

    void turnTo(int k) {
      long fromBelow = columns < 1 ? 0 : k / columns;
      long fromLeft = k - fromBelow * columns;
      left = originAcross + fromLeft * width;
      right = left + width;
      lower = originUp + fromBelow * height;
      upper = lower + height;
      isTop = fromBelow + 1 == rows;
    }

    int strokesOn(Strokes strokes) {
      int sum = 0;
      for (int k = 0; k < strokes.count; k++) {
        boolean isOn = strokes.wayOf(k) == ACROSS
            ? touches(strokes, k, lower, upper) && runsWithin(strokes, k, left, right)
            : touches(strokes, k, left, right) && runsWithin(strokes, k, lower, upper);
        if (isOn) {
          sum++;
        }
      }
      return sum;
    }

    private static boolean touches(Strokes strokes, int k, long from, long to) {
      return from <= strokes.line[k] && strokes.line[k] <= to;
    }

    private static boolean runsWithin(Strokes strokes, int k, long from, long to) {
      return strokes.begin[k] < to && from < strokes.end[k];
    }

    int marks(Strokes strokes) {
      int sum = 0;
      for (int k = 0; k < strokes.acrossCount; k++) {
        if (strokes.begin[k] < right && right < strokes.end[k] && isMarkedAt(strokes.line[k])) {
          sum++;
        }
      }
      return sum;
    }

    // A line on the side between two pages is marked on the upper one alone, but above the top
    // row there is none.
    private boolean isMarkedAt(long line) {
      return lower <= line && (line < upper || isTop && line == upper);
    }
  }

  /** The text of one label, written anew whenever it is asked for. */
  private static final class Label {
    private final StringBuilder text = new StringBuilder();

    void write(int w, int h, int d) {
      text.setLength(0);
      text.append('W').append(w).append('H').append(h).append('D').append(d).append('#');
      text.append(checkDigit());
    }

    private int checkDigit() {
      int sum = 0;
      for (int i = 0; i < text.length(); i++) {
        char c = text.charAt(i);
        if (c >= '0' && c <= '9') {
          sum += (c - '0') * (i + 1);
        }
      }
      return sum % 10;
    }

    int character(int i) {
      return i >= 0 && i < text.length() ? text.charAt(i) : NONE;
    }
  }
}
