import java.util.ArrayList;
import java.util.Arrays;
import java.util.List;
import java.util.Random;

/** Many small scenes, and the fullest ones, held against the document's terms place by place. */
public final class SceneTest {
  private static final int SCENES = 250;
  private static final int FAR_SCALE = 58000;
  private static final int FARTHEST = 1000000;

  private final Due due;
  private final Random random = new Random(20261115);

  private SceneTest(Due due) {
    this.due = due;
  }

  public static void main(String[] args) {
    Due due = new Due("SceneTest");
    SceneTest test = new SceneTest(due);
    for (int i = 0; i < SCENES; i++) {
      int size = 5 + i % 3 * 6;
      test.randomScene(size, 1 + i % 24);
      test.farScene(size, 24 - i % 24);
    }
    test.crossing(0);
    test.crossing(1);
    test.crossing(2);
    test.woven();
    due.end();
  }

  private void randomScene(int size, int boxCount) {
    Scene scene = new Scene(size);
    int width = 1 + random.nextInt(size);
    int height = 1 + random.nextInt(size);
    PartDrawings x = new PartDrawings(width, height);
    for (int i = 0; i < boxCount; i++) {
      add(scene, x, randomBox(size));
    }
    views(scene, x, new int[] {width, height});
    sections(scene, x);
    cutList(scene, x);
    changes(scene, x);
    measures(scene, x);
  }

  // The same scene, far off and many times as great: each number goes along with it.
  private void farScene(int size, int boxCount) {
    Scene scene = new Scene(size);
    PartDrawings far = new PartDrawings(FAR_SCALE, FAR_SCALE);
    int origin = random.nextBoolean() ? -FARTHEST : FARTHEST - size * FAR_SCALE;
    for (int i = 0; i < boxCount; i++) {
      int[] b = randomBox(size);
      scene.boxes.add(b);
      int box = far.box(origin + b[0] * FAR_SCALE, origin + b[1] * FAR_SCALE,
          origin + b[2] * FAR_SCALE, b[3] * FAR_SCALE, b[4] * FAR_SCALE);
      far.deep(box, b[5] * FAR_SCALE);
    }
    int view = random.nextInt(6);
    List<int[]> want = scene.strokes(view);
    for (int[] stroke : want) {
      for (int i = 1; i < 4; i++) {
        stroke[i] = origin + stroke[i] * FAR_SCALE;
      }
    }
    int count = far.draw(view);
    due.holds("far view " + view + " of " + told(scene), written(want), written(drawn(far, count)));
    due.is("far ink", Scene.ink(want, 1), () -> far.ink(true));
    int at = random.nextInt(size);
    due.is("far area", scene.section(view, at, 1) * FAR_SCALE * FAR_SCALE,
        () -> far.section(view, origin + (long) at * FAR_SCALE, 1));
  }

  private int[] randomBox(int size) {
    int[] b = new int[6];
    for (int axis = 0; axis < 3; axis++) {
      b[axis] = random.nextInt(size - 1);
      b[axis + 3] = 1 + random.nextInt(size - 1 - b[axis]);
    }
    return b;
  }

  private static void add(Scene scene, PartDrawings x, int[] b) {
    scene.boxes.add(b);
    x.deep(x.box(b[0], b[1], b[2], b[3], b[4]), b[5]);
  }

  private void views(Scene scene, PartDrawings x, int[] pageSize) {
    for (int view = 0; view < 6; view++) {
      List<int[]> want = scene.strokes(view);
      int count = x.draw(view);
      due.holds("view " + view + " of " + told(scene), written(want), written(drawn(x, count)));
      due.is("ink seen", Scene.ink(want, 0), () -> x.ink(false));
      due.is("ink hidden", Scene.ink(want, 1), () -> x.ink(true));
      places(scene, x, want);
      pages(x, want, pageSize);
    }
  }

  private void places(Scene scene, PartDrawings x, List<int[]> want) {
    for (int i = 0; i < 20; i++) {
      int across = random.nextInt(scene.size);
      int place = random.nextInt(scene.size);
      boolean up = random.nextBoolean();
      due.is("on " + across + ", " + place + ", " + up + " of " + told(scene),
          Scene.on(want, across, place, up), () -> x.on(across, place, up));
    }
  }

  private void pages(PartDrawings x, List<int[]> strokes, int[] pageSize) {
    List<int[]> pages = Scene.pages(strokes, pageSize[0], pageSize[1]);
    due.is("pages", pages.size(), () -> x.page(-1, 1));
    for (int i = 0; i < pages.size(); i++) {
      int k = i;
      due.is("on page " + k, Scene.onPage(strokes, pages.get(k)), () -> x.page(k, 0));
      due.is("marks of page " + k, Scene.marks(strokes, pages.get(k)), () -> x.page(k, 1));
    }
  }

  private void sections(Scene scene, PartDrawings x) {
    for (int view = 0; view < 6; view++) {
      int v = view;
      for (int i = 0; i <= scene.size; i++) {
        int at = i;
        due.is("section " + v + " at " + at, scene.section(v, at, 0), () -> x.section(v, at, 0));
        due.is("area " + v + " at " + at, scene.section(v, at, 1), () -> x.section(v, at, 1));
      }
    }
  }

  private void cutList(Scene scene, PartDrawings x) {
    List<long[]> lines = scene.cutList();
    due.is("lines", lines.size(), () -> x.list(-1, 0));
    for (int i = 0; i < lines.size() * 4; i++) {
      int k = i / 4;
      int what = i % 4;
      due.is("list " + k + ", " + what, lines.get(k)[what], () -> x.list(k, what));
    }
  }

  private void changes(Scene scene, PartDrawings x) {
    int view = random.nextInt(6);
    x.draw(view);
    x.keep();
    List<int[]> kept = scene.strokes(view);
    int part = random.nextInt(scene.boxes.size());
    int[] old = scene.boxes.get(part);
    int[] moved = old.clone();
    for (int axis = 0; axis < 3; axis++) {
      moved[axis] = random.nextInt(scene.size - moved[axis + 3]);
    }
    scene.boxes.set(part, moved);
    x.explode(part, moved[0] - old[0], moved[1] - old[1], moved[2] - old[2]);
    x.draw(view);
    List<Integer> want = Scene.changed(scene.strokes(view), kept);
    want.add(-1);
    for (int i = 0; i < want.size(); i++) {
      int k = i;
      due.is("changed " + k, want.get(k), () -> x.changed(k));
    }
  }

  private void measures(Scene scene, PartDrawings x) {
    List<int[]> told = new ArrayList<>();
    for (int i = 0; i < 40 && told.size() < 30; i++) {
      int a = random.nextInt(scene.boxes.size());
      int b = random.nextInt(scene.boxes.size());
      int axis = random.nextInt(3);
      int one = scene.boxes.get(a)[axis];
      int other = scene.boxes.get(b)[axis];
      int number = one == other ? -1 : told.size();
      due.is("measure " + told.size(), number, () -> x.measure(a, b, axis));
      if (number >= 0) {
        int row = freeRow(told, axis, Math.min(one, other), Math.max(one, other));
        told.add(new int[] {axis, row, Math.min(one, other), Math.max(one, other)});
        due.is("row " + number, row, () -> x.row(number));
      }
    }
    for (int i = 0; i < 90; i++) {
      int axis = i % 3;
      int row = i / 3;
      due.is("total " + axis + ", " + row, told.stream().filter(m -> m[0] == axis && m[1] == row)
          .mapToLong(m -> m[3] - m[2]).sum(), () -> x.total(axis, row));
    }
  }

  private static int freeRow(List<int[]> told, int axis, int from, int to) {
    int row = 0;
    while (isTaken(told, new int[] {axis, row, from, to})) {
      row++;
    }
    return row;
  }

  private static boolean isTaken(List<int[]> told, int[] m) {
    return told.stream().anyMatch(
        t -> t[0] == m[0] && t[1] == m[1] && Math.min(t[3], m[3]) > Math.max(t[2], m[2]));
  }

  // Each box wider and lower than the next: every two of them cross at four places.
  private void crossing(int order) {
    Scene scene = new Scene(100);
    PartDrawings x = new PartDrawings(60, 60);
    for (int i = 0; i < 24; i++) {
      int z = order == 0 ? i : order == 1 ? 23 - i : i * 7 % 24;
      add(scene, x, new int[] {i, 24 - i, z, 95 - 2 * i, 47 + 2 * i, 1});
    }
    views(scene, x, new int[] {60, 60});
  }

  // Twelve bars across, behind and before twelve bars up by turns: 96 sides, and a break at each of
  // the 144 * 4 crossings.
  private void woven() {
    Scene scene = new Scene(64);
    PartDrawings x = new PartDrawings(20, 30);
    for (int i = 0; i < 12; i++) {
      add(scene, x, new int[] {0, 1 + 5 * i, i % 2 * 2, 62, 3, 1});
      add(scene, x, new int[] {1 + 5 * i, 0, 1, 3, 62, 1});
    }
    views(scene, x, new int[] {20, 30});
    due.is("woven strokes", 672, () -> x.draw(0));
  }

  private static List<int[]> drawn(PartDrawings x, int count) {
    List<int[]> found = new ArrayList<>();
    for (int k = 0; k < count; k++) {
      int[] s = new int[5];
      for (int i = 0; i < 5; i++) {
        s[i] = (int) x.command(k, i);
      }
      found.add(s);
    }
    return found;
  }

  private static String written(List<int[]> strokes) {
    StringBuilder text = new StringBuilder();
    strokes.forEach(s -> text.append(Arrays.toString(s)));
    return text.toString();
  }

  private static String told(Scene scene) {
    return written(scene.boxes);
  }
}
