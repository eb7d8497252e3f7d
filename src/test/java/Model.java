import java.util.ArrayList;
import java.util.Arrays;
import java.util.Comparator;
import java.util.List;
import java.util.TreeSet;

/**
 * The whole document as an object, promise by promise and in its words, at any places: it shares
 * nothing with the program, and takes no care of room or speed.
 */
final class Model {
  private static final long MOST = 1000000;

  private final long width;
  private final long height;
  private final List<long[]> boxes = new ArrayList<>();
  private final List<long[]> measures = new ArrayList<>();
  private List<List<Long>> drawn;
  private List<List<Long>> kept;

  Model(int width64, int height64) {
    width = nearest(width64);
    height = nearest(height64);
  }

  private static long nearest(long side) {
    return side < 1 ? 1 : side > 65536 ? 65536 : side;
  }

  long box(long x, long y, long z, long w, long h) {
    state(boxes.size() < 24);
    long[] places = {x, y, z};
    for (long place : places) {
      argument(isWithin(place, -MOST, MOST));
    }
    argument(isWithin(w, 1, MOST) && isWithin(h, 1, MOST));
    boxes.add(new long[] {x, y, z, w, h, 1});
    drawn = null;
    return boxes.size() - 1;
  }

  long deep(int box, long d) {
    index(isWithin(box, 0, boxes.size() - 1));
    argument(isWithin(d, 1, MOST));
    boolean isAnother = boxes.get(box)[5] != d;
    boxes.get(box)[5] = d;
    drawn = isAnother ? null : drawn;
    return Due.bit(isAnother);
  }

  long explode(int part, long... way) {
    index(isWithin(part, 0, boxes.size() - 1));
    long[] b = boxes.get(part);
    for (int axis = 0; axis < 3; axis++) {
      // A way beyond this leads out of the room from any place in it.
      argument(isWithin(way[axis], -2 * MOST, 2 * MOST));
      argument(isWithin(b[axis] + way[axis], -MOST, MOST));
    }
    for (int axis = 0; axis < 3; axis++) {
      b[axis] += way[axis];
    }
    drawn = null;
    return 0;
  }

  long draw(int view) {
    argument(isWithin(view, 0, 5));
    drawn = strokes(view);
    return drawn.size();
  }

  long command(int k, int i) {
    state(drawn != null);
    index(isWithin(k, 0, drawn.size() - 1) && isWithin(i, 0, 4));
    return drawn.get(k).get(i);
  }

  long on(long across, long place, boolean up) {
    state(drawn != null);
    long line = up ? across : place;
    long at = up ? place : across;
    return drawn.stream().filter(s -> s.get(0) == Due.bit(up) && s.get(1) == line)
        .filter(s -> isWithin(at, s.get(2), s.get(3)))
        .mapToLong(s -> s.get(4)).min().orElse(2);
  }

  long ink(boolean hidden) {
    state(drawn != null);
    return drawn.stream().filter(s -> s.get(4) == Due.bit(hidden))
        .mapToLong(s -> s.get(3) - s.get(2)).sum();
  }

  long measure(int a, int b, int axis) {
    index(isWithin(a, 0, boxes.size() - 1) && isWithin(b, 0, boxes.size() - 1));
    state(measures.size() < 30);
    argument(isWithin(axis, 0, 2));
    long from = Math.min(boxes.get(a)[axis], boxes.get(b)[axis]);
    long to = Math.max(boxes.get(a)[axis], boxes.get(b)[axis]);
    if (from == to) {
      return -1;
    }
    int row = 0;
    while (overlaps(axis, row, from, to)) {
      row++;
    }
    measures.add(new long[] {axis, row, from, to});
    return measures.size() - 1;
  }

  private boolean overlaps(long axis, long row, long from, long to) {
    return measures.stream().filter(m -> m[0] == axis && m[1] == row)
        .anyMatch(m -> Math.min(m[3], to) > Math.max(m[2], from));
  }

  long row(int measure) {
    index(isWithin(measure, 0, measures.size() - 1));
    return measures.get(measure)[1];
  }

  long total(int axis, int row) {
    argument(row >= 0 && isWithin(axis, 0, 2));
    return measures.stream().filter(m -> m[0] == axis && m[1] == row)
        .mapToLong(m -> m[3] - m[2]).sum();
  }

  long section(int view, long at, int what) {
    argument(isWithin(view, 0, 5) && isWithin(what, 0, 1));
    int axis = axes(view)[2];
    List<long[]> cut = new ArrayList<>(boxes);
    cut.removeIf(b -> at <= b[axis] || at >= b[axis] + b[axis + 3]);
    return what == 0 ? cut.size() : area(cut, axes(view));
  }

  // Strip by strip, each with the lengths that its boxes take together.
  private static long area(List<long[]> cut, int[] axes) {
    List<Long> places = places(cut, axes[0]);
    long sum = 0;
    for (int i = 1; i < places.size(); i++) {
      long from = places.get(i - 1);
      long to = places.get(i);
      List<long[]> strip = new ArrayList<>(cut);
      strip.removeIf(b -> b[axes[0]] >= to || b[axes[0]] + b[axes[0] + 3] <= from);
      strip.sort(Comparator.comparingLong(b -> b[axes[1]]));
      long reached = Long.MIN_VALUE;
      for (long[] b : strip) {
        long end = b[axes[1]] + b[axes[1] + 3];
        sum += (to - from) * Math.max(0, end - Math.max(reached, b[axes[1]]));
        reached = Math.max(reached, end);
      }
    }
    return sum;
  }

  long list(int k, int what) {
    List<long[]> lines = new ArrayList<>();
    for (long[] b : boxes) {
      long[] sizes = Arrays.copyOfRange(b, 3, 6);
      Arrays.sort(sizes);
      long[] line = {sizes[2], sizes[1], sizes[0], 0};
      if (lines.stream().noneMatch(l -> Arrays.equals(l, 0, 3, line, 0, 3))) {
        lines.add(line);
      }
      lines.stream().filter(l -> Arrays.equals(l, 0, 3, line, 0, 3)).forEach(l -> l[3]++);
    }
    lines.sort((l, m) -> Arrays.compare(m, 0, 3, l, 0, 3));
    index(isWithin(k, -1, lines.size() - 1));
    argument(isWithin(what, 0, 3));
    return k == -1 ? lines.size() : lines.get(k)[what];
  }

  long page(int k, int what) {
    state(drawn != null);
    long left = least(0);
    long lower = least(1);
    long columns = Math.max(1, -Math.floorDiv(left - greatest(0), width));
    long rows = Math.max(1, -Math.floorDiv(lower - greatest(1), height));
    index(isWithin(k, -1, columns * rows - 1));
    argument(isWithin(what, 0, 1));
    if (k == -1) {
      return Math.min(columns * rows, Integer.MAX_VALUE);
    }
    long[] sides = {left + k % columns * width, lower + k / columns * height};
    boolean isTop = k / columns == rows - 1;
    return drawn.stream().filter(s -> what == 0 ? isOn(s, sides) : isMark(s, sides, isTop)).count();
  }

  private boolean isOn(List<Long> s, long[] sides) {
    int way = (int) (long) s.get(0);
    long[] sizes = {width, height};
    long part = Math.min(s.get(3), sides[way] + sizes[way]) - Math.max(s.get(2), sides[way]);
    return part > 0 && isWithin(s.get(1), sides[1 - way], sides[1 - way] + sizes[1 - way]);
  }

  private boolean isMark(List<Long> s, long[] sides, boolean isTop) {
    long right = sides[0] + width;
    long last = sides[1] + height - (isTop ? 0 : 1);
    return s.get(0) == 0 && s.get(2) < right && right < s.get(3)
        && isWithin(s.get(1), sides[1], last);
  }

  // Any stroke has a place of its line, and a begin and an end the other way.
  private long least(int way) {
    return drawn.stream().mapToLong(s -> s.get(0) == way ? s.get(2) : s.get(1)).min().orElse(0);
  }

  private long greatest(int way) {
    return drawn.stream().mapToLong(s -> s.get(0) == way ? s.get(3) : s.get(1)).max().orElse(0);
  }

  long code(int part, int i) {
    index(isWithin(part, 0, boxes.size() - 1));
    argument(i >= 0);
    long[] b = boxes.get(part);
    String text = "W" + b[3] + "H" + b[4] + "D" + b[5] + "#";
    int sum = 0;
    for (int p = 1; p <= text.length(); p++) {
      sum += Character.isDigit(text.charAt(p - 1)) ? p * (text.charAt(p - 1) - '0') : 0;
    }
    text += sum % 10;
    return i < text.length() ? text.charAt(i) : -1;
  }

  long keep() {
    state(drawn != null);
    kept = drawn;
    return kept.size();
  }

  long changed(int k) {
    state(drawn != null && kept != null);
    argument(k >= 0);
    return drawn.stream().filter(s -> !kept.contains(s)).skip(k)
        .mapToLong(s -> drawn.indexOf(s)).findFirst().orElse(-1);
  }

  /** Across, up, and the axis along which the view is. */
  private static int[] axes(int view) {
    return view < 2 ? new int[] {0, 1, 2} : view < 4 ? new int[] {1, 2, 0} : new int[] {0, 2, 1};
  }

  private List<List<Long>> strokes(int view) {
    List<List<Long>> found = new ArrayList<>();
    int[] axes = axes(view);
    for (int way = 0; way < 2; way++) {
      List<Long> ends = places(boxes, axes[way]);
      for (long line : places(boxes, axes[1 - way])) {
        for (int i = 1; i < ends.size(); i++) {
          long state = state(view, way, line, ends.get(i - 1) + ends.get(i));
          if (state < 2) {
            join(found, List.of((long) way, line, ends.get(i - 1), ends.get(i), state));
          }
        }
      }
    }
    return found;
  }

  // A piece that goes on where the last one ends makes that one longer.
  private static void join(List<List<Long>> found, List<Long> piece) {
    List<Long> last = found.isEmpty() ? null : found.get(found.size() - 1);
    if (last != null && last.get(0).equals(piece.get(0)) && last.get(1).equals(piece.get(1))
        && last.get(3).equals(piece.get(2)) && last.get(4).equals(piece.get(4))) {
      found.remove(found.size() - 1);
      found.add(List.of(piece.get(0), piece.get(1), last.get(2), piece.get(3), piece.get(4)));
    } else {
      found.add(piece);
    }
  }

  /** At twice the place, so that middles are numbers: SEEN, HIDDEN, or no edge at all. */
  private long state(int view, int way, long line, long twice) {
    int along = axes(view)[way];
    int beside = axes(view)[1 - way];
    long state = 2;
    for (long[] edge : boxes) {
      boolean isItsLine = line == edge[beside] || line == edge[beside] + edge[beside + 3];
      if (isItsLine && isWithin(twice, 2 * edge[along], 2 * (edge[along] + edge[along + 3]))) {
        for (long level : levels(edge, view)) {
          boolean isCovered = boxes.stream().anyMatch(b -> levels(b, view)[0] < level
              && b[beside] < line && line < b[beside] + b[beside + 3]
              && 2 * b[along] < twice && twice < 2 * (b[along] + b[along + 3]));
          state = Math.min(state, Due.bit(isCovered));
        }
      }
    }
    return state;
  }

  /** FRONT and BACK. */
  private static long[] levels(long[] b, int view) {
    int axis = axes(view)[2];
    long far = b[axis] + b[axis + 3];
    return view % 2 == 0 ? new long[] {b[axis], far} : new long[] {-far, -b[axis]};
  }

  private static List<Long> places(List<long[]> of, int axis) {
    TreeSet<Long> found = new TreeSet<>();
    for (long[] b : of) {
      found.add(b[axis]);
      found.add(b[axis] + b[axis + 3]);
    }
    return new ArrayList<>(found);
  }

  private static boolean isWithin(long n, long least, long most) {
    return least <= n && n <= most;
  }

  private static void state(boolean holds) {
    if (!holds) {
      throw new IllegalStateException();
    }
  }

  private static void index(boolean holds) {
    if (!holds) {
      throw new IndexOutOfBoundsException();
    }
  }

  private static void argument(boolean holds) {
    if (!holds) {
      throw new IllegalArgumentException();
    }
  }
}
