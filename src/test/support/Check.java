/** Compares answers with those that are due, and tells at the end whether all were. */
public final class Check {
  /** A call that may throw. */
  public interface Call {
    long answer();
  }

  private static int made = 0;
  private static int wrong = 0;

  private Check() {
  }

  public static void same(String what, long got, long want) {
    made++;
    if (got != want) {
      complain(what + " answered " + got + ", due is " + want);
    }
  }

  public static void sameText(String what, String got, String want) {
    made++;
    if (!got.equals(want)) {
      complain(what + " is " + got + ", due is " + want);
    }
  }

  /** The class must be the very one, so that what the machine throws by itself never passes. */
  public static void refused(String what, Class<? extends RuntimeException> due, Call call) {
    sameText(what, outcome(call), due.getSimpleName());
  }

  public static String outcome(Call call) {
    try {
      return Long.toString(call.answer());
    } catch (RuntimeException e) {
      return e.getClass().getSimpleName();
    }
  }

  public static void end() {
    System.out.println(made + " answers, " + wrong + " of them not as due");
    if (wrong != 0 || made == 0) {
      System.exit(1);
    }
  }

  private static void complain(String text) {
    wrong++;
    System.out.println(text);
  }
}
