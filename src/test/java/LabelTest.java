/** Promise 15: code. */
public final class LabelTest {
  private static final Class<IllegalArgumentException> ARGUMENT = IllegalArgumentException.class;
  private static final Class<IndexOutOfBoundsException> INDEX = IndexOutOfBoundsException.class;

  public static void main(String[] args) {
    Due due = new Due("LabelTest");
    texts(due);
    wrongNumbers(due);
    due.end();
  }

  private static void label(Due due, int[] sizes, String want) {
    PartDrawings x = new PartDrawings(10, 10);
    x.box(0, 0, 0, 1, 1);
    x.deep(x.box(-5, 7, 0, sizes[0], sizes[1]), sizes[2]);
    StringBuilder text = new StringBuilder();
    for (int i = 0; i < 40 && x.code(1, i) != PartDrawings.NONE; i++) {
      text.append((char) x.code(1, i));
    }
    due.holds("the label", want, text.toString());
    due.is("behind it", -1, () -> x.code(1, want.length()));
    due.is("far behind it", -1, () -> x.code(1, Integer.MAX_VALUE));
    due.is("the other box's", '1', () -> x.code(0, 1));
  }

  private static void texts(Due due) {
    // 1*2 + 1*4 + 1*6 = 12
    label(due, new int[] {1, 1, 1}, "W1H1D1#2");
    // 1*2 + 0*3 + 8*5 + 4*7 = 70
    label(due, new int[] {10, 8, 4}, "W10H8D4#0");
    // 1*2 + 2*3 + 3*4 + 4*6 + 5*7 + 6*9 = 133
    label(due, new int[] {123, 45, 6}, "W123H45D6#3");
    // 1*2 + 1*10 + 1*18 = 30
    label(due, new int[] {1000000, 1000000, 1000000}, "W1000000H1000000D1000000#0");
    // 9 * (2+3+4+5+6+7 + 9+10+11+12+13+14 + 16+17+18+19+20+21) = 9 * 207 = 1863
    label(due, new int[] {999999, 999999, 999999}, "W999999H999999D999999#3");
  }

  private static void wrongNumbers(Due due) {
    PartDrawings x = new PartDrawings(10, 10);
    due.fails("code of none", INDEX, () -> x.code(0, 0));
    due.fails("code of none, below 0", INDEX, () -> x.code(0, -1));
    x.box(0, 0, 0, 1, 1);
    int[] parts = {-1, 1, Integer.MIN_VALUE, Integer.MAX_VALUE};
    for (int p : parts) {
      due.fails("code of " + p, INDEX, () -> x.code(p, -1));
    }
    due.fails("code -1", ARGUMENT, () -> x.code(0, -1));
    due.fails("code far below", ARGUMENT, () -> x.code(0, Integer.MIN_VALUE));
  }
}
