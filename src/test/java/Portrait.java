/**
 * What can be seen of an object after a run, by many calls on objects that have played it: what a call
 * changes shows as a difference between the portraits of the runs with and without it. Calls that may be
 * refused come late on each object, as the fault that is looked for may be in them too.
 */
final class Portrait {
  private static final int[] DAYS = {0, 4, 5, 6, 9, 10, 11, 49, 50, 51, 9998, 9999};
  private static final int[] PLACES = {0, 1, 2, 3, 4, 5, 28, 29};
  private static final String[] WORDS = {"ab", "filip", "cde", "s"};
  private static final int[] DISTANCES = {0, 1, 3, 10, 100};

  private final StringBuilder lines = new StringBuilder();

  private Portrait() {
  }

  static String of(Run run) {
    Portrait portrait = new Portrait();
    portrait.collected(run.play());
    portrait.typed(run.play());
    portrait.cornersAsRoute(run.play());
    portrait.cornersAsShape(run.play());
    for (int w = 0; w < 4; w++) {
      portrait.watch(run.play(), w);
    }
    for (int id : PLACES) {
      portrait.room(run.play(), id);
      portrait.removal(run.play(), id);
    }
    for (int day : DAYS) {
      portrait.found(run.play(), day);
      portrait.words(run.play(), day);
    }
    return portrait.lines.toString();
  }

  private void say(String what, Check.Call call) {
    lines.append(what).append(' ').append(Check.outcome(call)).append('\n');
  }

  private void doing(String what, Check.Deed deed) {
    say(what, () -> Check.done(deed));
  }

  private void collected(PlaceFinder x) {
    say("hits", () -> Run.hits(x));
    say("corners", () -> x.corner(0, 0));
    say("conditions", () -> x.condition(4, 0, 0, 0));
    say("places", () -> x.place(0));
  }

  private void typed(PlaceFinder x) {
    say("sound", x::sound);
    for (int id : PLACES) {
      say("errors", () -> x.errors(id, 0));
      say("errors", () -> x.errors(id, 1));
    }
    for (int i = 0; i < 10; i++) {
      say("letter", () -> x.letter('s'));
      say("errors", () -> x.errors(0, 0));
    }
  }

  private void cornersAsRoute(PlaceFinder x) {
    x.route();
    alongRoute(x, 50);
  }

  private void alongRoute(PlaceFinder x, int day) {
    for (int distance : DISTANCES) {
      x.clear();
      x.condition(8, distance, 0, 0);
      say("along " + distance, () -> Run.found(x, day, 3));
    }
  }

  private void cornersAsShape(PlaceFinder x) {
    for (int id : PLACES) {
      doing("shape", () -> x.shape(id, 9999));
      say("holds", () -> x.holds(id, 5, 5, 9999));
      say("holds its first corner", () -> x.holds(id, 1, 1, 9999));
      say("near", () -> x.near(8, 1, 30, -1, 9999));
      say("hits", () -> Run.hits(x));
    }
  }

  private void watch(PlaceFinder x, int w) {
    say("news", () -> x.news(w));
    say("told", () -> x.told(w));
    say("hits", () -> Run.hits(x));
  }

  /** How many names, shapes and spans of parents a place still takes. */
  private void room(PlaceFinder x, int id) {
    for (int i = 0; i < 4; i++) {
      int day = 9996 + i;
      Run.type(x, "s");
      doing("name", () -> x.name(id, 0, 0));
      doing("parent", () -> x.parent(id, 2, day, day));
      x.route();
      x.corner(1, 1);
      doing("shape", () -> x.shape(id, day));
    }
  }

  private void removal(PlaceFinder x, int id) {
    for (int i = DAYS.length - 1; i >= 0; i--) {
      int day = DAYS[i];
      doing("remove", () -> x.remove(id, day));
    }
  }

  private void found(PlaceFinder x, int day) {
    for (int order = 0; order < 4; order++) {
      int by = order;
      say("found", () -> Run.found(x, day, by));
    }
    x.clear();
    say("all by name", () -> Run.found(x, day, 1));
    say("all by route", () -> Run.found(x, day, 3));
    for (int kind = 0; kind < 8; kind++) {
      int asked = kind;
      say("near", () -> x.near(0, 0, 30, asked, day));
      say("hits", () -> Run.hits(x));
    }
    for (int id : PLACES) {
      say("chain", () -> x.chain(id, day, 0));
      say("chain", () -> x.chain(id, day, 1));
      say("holds", () -> x.holds(id, 5, 5, day));
    }
  }

  private void words(PlaceFinder x, int day) {
    alongRoute(x, day);
    x.clear();
    // The word that is typed is looked for first: after that nothing is typed.
    say("typed", () -> x.condition(0, 0, 0, 0));
    say("named so", () -> Run.found(x, day, 0));
    for (String word : WORDS) {
      x.clear();
      Run.type(x, word);
      say("typed", () -> x.condition(0, 0, 0, 0));
      say("named so", () -> Run.found(x, day, 0));
    }
  }
}
