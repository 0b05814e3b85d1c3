/** Counts what a test finds, prints each wrong answer, and ends the test with its exit code. */
final class Check {
  interface Call {
    Object make();
  }

  private static int right = 0;
  private static int wrong = 0;

  private Check() {
  }

  static void same(String what, Object want, Object got) {
    if (want.equals(got)) {
      right++;
    } else {
      wrong++;
      System.out.println(what + ": answered " + got + ", due is " + want);
    }
  }

  static void fails(String what, Class<?> want, Call call) {
    same(what, "throws " + want.getName(), answerOf(call));
  }

  /** The answer of a call, or the text "throws" with the exact class of what it threw. */
  static Object answerOf(Call call) {
    try {
      return call.make();
    } catch (Throwable thrown) {
      return "throws " + thrown.getClass().getName();
    }
  }

  static void end(String test) {
    System.out.println(test + ": " + right + " right, " + wrong + " wrong");
    if (wrong > 0 || right == 0) {
      System.exit(1);
    }
  }
}
