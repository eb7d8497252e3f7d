import java.util.ArrayList;
import java.util.List;
import java.util.TreeMap;

/**
 * The document's terms taken at their word, place by place, for boxes at small places: slow, and
 * written apart from the program so that both can be held against one another.
 */
final class Scene {
  /** Ends the places that are looked at; boxes reach from 0 to below it. */
  final int size;
  final List<int[]> boxes = new ArrayList<>();

  Scene(int size) {
    this.size = size;
  }

  /** A stroke: 0 or 1, line, begin, end, hidden. */
  List<int[]> strokes(int view) {
    List<int[]> found = new ArrayList<>();
    for (int way = 0; way < 2; way++) {
      for (int line = 0; line < size; line++) {
        addStrokes(view, way, line, found);
      }
    }
    return found;
  }

  private void addStrokes(int view, int way, int line, List<int[]> found) {
    int begin = 0;
    int state = 2;
    for (int p = 0; p <= size; p++) {
      // The middle between two places stands for all that lies between them.
      int next = p == size ? 2 : state(view, way, 2 * line, 2 * p + 1);
      if (next != state && state != 2) {
        found.add(new int[] {way, line, begin, p, state});
      }
      begin = next == state ? begin : p;
      state = next;
    }
  }

  /** All places are doubled here, so that middles are numbers. */
  private int state(int view, int way, int line, int at) {
    boolean any = false;
    for (int[] b : boxes) {
      int[] r = rectangle(b, view);
      int[] levels = {front(b, view), back(b, view)};
      for (int level : levels) {
        boolean isSide = way == 0
            ? (line == 2 * r[2] || line == 2 * r[3]) && 2 * r[0] <= at && at <= 2 * r[1]
            : (line == 2 * r[0] || line == 2 * r[1]) && 2 * r[2] <= at && at <= 2 * r[3];
        if (isSide) {
          any = true;
          if (!covered(view, way == 0 ? at : line, way == 0 ? line : at, level)) {
            return 0;
          }
        }
      }
    }
    return any ? 1 : 2;
  }

  private boolean covered(int view, int across, int up, int level) {
    for (int[] b : boxes) {
      int[] r = rectangle(b, view);
      if (front(b, view) < level && 2 * r[0] < across && across < 2 * r[1]
          && 2 * r[2] < up && up < 2 * r[3]) {
        return true;
      }
    }
    return false;
  }

  private static int axis(int view) {
    return new int[] {2, 2, 0, 0, 1, 1}[view];
  }

  /** Left, right, lower and upper side. */
  private static int[] rectangle(int[] b, int view) {
    int[][] others = {{1, 2}, {0, 2}, {0, 1}};
    int across = others[axis(view)][0];
    int up = others[axis(view)][1];
    return new int[] {b[across], b[across] + b[across + 3], b[up], b[up] + b[up + 3]};
  }

  private static int front(int[] b, int view) {
    int a = axis(view);
    return view % 2 == 0 ? b[a] : -(b[a] + b[a + 3]);
  }

  private static int back(int[] b, int view) {
    int a = axis(view);
    return view % 2 == 0 ? b[a] + b[a + 3] : -b[a];
  }

  static int on(List<int[]> strokes, int across, int place, boolean up) {
    boolean hidden = false;
    for (int[] s : strokes) {
      int line = up ? across : place;
      int at = up ? place : across;
      if (s[0] == (up ? 1 : 0) && s[1] == line && s[2] <= at && at <= s[3]) {
        if (s[4] == 0) {
          return 0;
        }
        hidden = true;
      }
    }
    return hidden ? 1 : 2;
  }

  static long ink(List<int[]> strokes, int hidden) {
    return strokes.stream().filter(s -> s[4] == hidden).mapToLong(s -> s[3] - s[2]).sum();
  }

  long section(int view, int at, int what) {
    boolean[][] filled = new boolean[size][size];
    int count = 0;
    for (int[] b : boxes) {
      int a = axis(view);
      if (b[a] < at && at < b[a] + b[a + 3]) {
        count++;
        fill(filled, rectangle(b, view));
      }
    }
    if (what == 0) {
      return count;
    }
    long sum = 0;
    for (boolean[] column : filled) {
      for (boolean cell : column) {
        sum += cell ? 1 : 0;
      }
    }
    return sum;
  }

  private static void fill(boolean[][] filled, int[] r) {
    for (int i = r[0]; i < r[1]; i++) {
      for (int j = r[2]; j < r[3]; j++) {
        filled[i][j] = true;
      }
    }
  }

  /** The sizes of each line, and how many boxes. */
  List<long[]> cutList() {
    TreeMap<Long, long[]> lines = new TreeMap<>();
    for (int[] b : boxes) {
      int[] s = {b[3], b[4], b[5]};
      java.util.Arrays.sort(s);
      long key = -((s[2] * 1000L + s[1]) * 1000L + s[0]);
      lines.computeIfAbsent(key, k -> new long[] {s[2], s[1], s[0], 0})[3]++;
    }
    return new ArrayList<>(lines.values());
  }

  /** Left, right, lower, upper side of each page, and 1 for those of the top row. */
  static List<int[]> pages(List<int[]> strokes, int width, int height) {
    int[] most = {Integer.MAX_VALUE, Integer.MIN_VALUE, Integer.MAX_VALUE, Integer.MIN_VALUE};
    for (int[] s : strokes) {
      int run = s[0] == 0 ? 0 : 2;
      most[run] = Math.min(most[run], s[2]);
      most[run + 1] = Math.max(most[run + 1], s[3]);
      most[2 - run] = Math.min(most[2 - run], s[1]);
      most[3 - run] = Math.max(most[3 - run], s[1]);
    }
    List<int[]> found = new ArrayList<>();
    if (strokes.isEmpty()) {
      found.add(new int[] {0, width, 0, height, 1});
      return found;
    }
    for (int low = most[2]; low == most[2] || low < most[3]; low += height) {
      for (int left = most[0]; left == most[0] || left < most[1]; left += width) {
        found.add(new int[] {left, left + width, low, low + height, low + height >= most[3] ? 1 : 0});
      }
    }
    return found;
  }

  static int onPage(List<int[]> strokes, int[] page) {
    int count = 0;
    for (int[] s : strokes) {
      int run = s[0] == 0 ? 0 : 2;
      boolean beside = page[2 - run] <= s[1] && s[1] <= page[3 - run];
      count += beside && Math.min(s[3], page[run + 1]) - Math.max(s[2], page[run]) > 0 ? 1 : 0;
    }
    return count;
  }

  static int marks(List<int[]> strokes, int[] page) {
    int count = 0;
    for (int[] s : strokes) {
      boolean beyond = s[0] == 0 && s[2] < page[1] && s[3] > page[1];
      boolean here = s[1] >= page[2] && (page[4] == 1 ? s[1] <= page[3] : s[1] < page[3]);
      count += beyond && here ? 1 : 0;
    }
    return count;
  }

  static List<Integer> changed(List<int[]> drawn, List<int[]> kept) {
    List<Integer> found = new ArrayList<>();
    for (int i = 0; i < drawn.size(); i++) {
      int[] s = drawn.get(i);
      if (kept.stream().noneMatch(t -> java.util.Arrays.equals(s, t))) {
        found.add(i);
      }
    }
    return found;
  }
}
