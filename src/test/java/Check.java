/** Compares answers with those that are due, and counts the wrong ones. */
final class Check {
  /** A call whose answer is looked at; what it throws is its answer too. */
  interface Call {
    Object answer();
  }

  /** A call that answers nothing. */
  interface Deed {
    void act();
  }

  private static final int MOST_PRINTED = 50;
  private static int wrong = 0;
  private static int looked = 0;

  private Check() {
  }

  static void due(String what, Object want, Call call) {
    looked++;
    String got = outcome(call);
    if (!got.equals(String.valueOf(want))) {
      wrong++;
      if (wrong <= MOST_PRINTED) {
        System.out.println(what + " answered " + got + ", due is " + want);
      }
    }
  }

  /** That each of the deeds throws an exception of just this class. */
  static void refused(String what, Class<? extends RuntimeException> kind, Deed... deeds) {
    for (int i = 0; i < deeds.length; i++) {
      Deed deed = deeds[i];
      due(what + " (" + i + ")", kind.getSimpleName(), () -> done(deed));
    }
  }

  static String done(Deed deed) {
    deed.act();
    return "done";
  }

  static String outcome(Call call) {
    try {
      return String.valueOf(call.answer());
    } catch (RuntimeException e) {
      return e.getClass().getSimpleName();
    }
  }

  static int wrongs() {
    return wrong;
  }

  static void end() {
    System.out.println(looked + " answers looked at, " + wrong + " wrong");
    if (wrong != 0 || looked == 0) {
      System.exit(1);
    }
  }
}
