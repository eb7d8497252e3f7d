/** Holds answers against those that are due, and prints each call whose answer is another one. */
final class Due {
  interface Call {
    long answer();
  }

  private static final long DONE = 0;
  private final String test;
  private int calls;
  private int wrong;

  Due(String test) {
    this.test = test;
  }

  void is(String call, long want, Call made) {
    holds(call, "" + want, outcome(made));
  }

  void done(String call, Runnable made) {
    is(call, DONE, asCall(made));
  }

  /** The very class is due: one below it would be an exception of the machine. */
  void fails(String call, Class<? extends RuntimeException> want, Call made) {
    holds(call, "throws." + want.getSimpleName(), outcome(made));
  }

  void failsDoing(String call, Class<? extends RuntimeException> want, Runnable made) {
    fails(call, want, asCall(made));
  }

  void holds(String what, String want, String got) {
    calls++;
    if (!want.equals(got)) {
      wrong++;
      System.out.println(test + ": " + what + " answered " + got + ", due is " + want);
    }
  }

  void end() {
    System.out.println(test + ": " + calls + " answers, " + wrong + " not as due");
    if (wrong != 0 || calls == 0) {
      System.exit(1);
    }
  }

  static String outcome(Call made) {
    try {
      return "" + made.answer();
    } catch (RuntimeException e) {
      return "throws." + e.getClass().getSimpleName();
    }
  }

  static long bit(boolean b) {
    return b ? 1 : 0;
  }

  private static Call asCall(Runnable made) {
    return () -> {
      made.run();
      return DONE;
    };
  }
}
