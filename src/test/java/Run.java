import java.util.ArrayList;
import java.util.List;

/** A run of calls that is played on a new object for each answer, so that no answer disturbs another. */
final class Run {
  /** A call, or some, whose answers are not looked at. */
  interface Step {
    void on(PlaceFinder x);
  }

  /** A call whose answer is looked at. */
  interface Question {
    Object to(PlaceFinder x);
  }

  /** A call with one number that is tried out. */
  interface NumberStep {
    void on(PlaceFinder x, int number);
  }

  private final List<Step> steps = new ArrayList<>();
  private String portrait;

  /** This run and a step more; this one stays as it is. */
  Run then(Step step) {
    Run longer = new Run();
    longer.steps.addAll(steps);
    longer.steps.add(step);
    return longer;
  }

  PlaceFinder play() {
    PlaceFinder x = new PlaceFinder();
    for (Step step : steps) {
      step.on(x);
    }
    return x;
  }

  Run places(int... kinds) {
    return then(x -> {
      for (int kind : kinds) {
        x.place(kind);
      }
    });
  }

  /** Places that are points from day 0 on, at x, y, x, y, .. */
  Run points(int... positions) {
    Run run = places(new int[positions.length / 2]);
    for (int i = 0; i < positions.length / 2; i++) {
      run = run.shape(i, 0, positions[2 * i], positions[2 * i + 1]);
    }
    return run;
  }

  Run corners(int... positions) {
    return then(x -> {
      for (int i = 0; i < positions.length; i += 2) {
        x.corner(positions[i], positions[i + 1]);
      }
    });
  }

  Run shape(int id, int day, int... positions) {
    return corners(positions).then(x -> x.shape(id, day));
  }

  Run route(int... positions) {
    return corners(positions).then(PlaceFinder::route);
  }

  Run typed(String word) {
    return then(x -> type(x, word));
  }

  Run name(int id, String word, int from, int to) {
    return typed(word).then(x -> x.name(id, from, to));
  }

  Run parent(int id, int area, int from, int to) {
    return then(x -> x.parent(id, area, from, to));
  }

  Run condition(int kind, int a, int b, int c) {
    return then(x -> x.condition(kind, a, b, c));
  }

  Run condition(int kind, int a, String word) {
    return typed(word).condition(kind, a, 0, 0);
  }

  static void type(PlaceFinder x, String word) {
    for (char c : word.toCharArray()) {
      x.letter(c);
    }
  }

  /** All hits, as many as there are. */
  static String hits(PlaceFinder x) {
    List<Integer> hits = new ArrayList<>();
    try {
      while (hits.size() <= 30) {
        hits.add(x.hit(hits.size()));
      }
    } catch (IndexOutOfBoundsException e) {
      return hits.toString();
    }
    return "hits without an end";
  }

  static String found(PlaceFinder x, int day, int order) {
    return hits(x, x.find(day, order));
  }

  static String near(PlaceFinder x, int px, int py, int n, int kind, int day) {
    return hits(x, x.near(px, py, n, kind, day));
  }

  static String news(PlaceFinder x, int w) {
    return hits(x, x.news(w));
  }

  /** All hits, if there are as many as was answered. */
  private static String hits(PlaceFinder x, int answered) {
    String hits = hits(x);
    int count = hits.equals("[]") ? 0 : hits.split(",").length;
    return answered == count ? hits : answered + " answered for " + hits;
  }

  void due(String what, Object want, Question question) {
    PlaceFinder x = play();
    Check.due(what, want, () -> question.to(x));
  }

  void finds(String what, String want, int day, int order) {
    due(what, want, x -> found(x, day, order));
  }

  /** That each of the calls throws nothing. */
  void takes(String what, Step... calls) {
    for (int i = 0; i < calls.length; i++) {
      Step call = calls[i];
      due(what + " (" + i + ")", "done", x -> Check.done(() -> call.on(x)));
    }
  }

  /** That each of the calls throws an exception of just this class, and that nothing has changed then. */
  void refuses(String what, Class<? extends RuntimeException> kind, Step... calls) {
    for (int i = 0; i < calls.length; i++) {
      Step call = calls[i];
      String label = what + " (" + i + ")";
      due(label, kind.getSimpleName(), x -> Check.done(() -> call.on(x)));
      leavesAll(label, call);
    }
  }

  /** That after a call, whether it throws or not, all is as it was before. */
  void leavesAll(String what, Step call) {
    Run with = then(x -> Check.outcome(() -> Check.done(() -> call.on(x))));
    Check.due(what + ": nothing has changed", portrait(), with::portrait);
  }

  /** That just the numbers least .. most are taken: tried at both edges, one beside them, and far away. */
  void range(String what, int least, int most, Class<? extends RuntimeException> kind, NumberStep call) {
    for (int number : new int[] {least, least + 1, most - 1, most}) {
      if (number >= least && number <= most) {
        takes(what + " " + number, x -> call.on(x, number));
      }
    }
    for (int number : new int[] {least - 1, most + 1, Integer.MIN_VALUE, Integer.MAX_VALUE}) {
      if (number < least || number > most) {
        refuses(what + " " + number, kind, x -> call.on(x, number));
      }
    }
  }

  private String portrait() {
    if (portrait == null) {
      portrait = Portrait.of(this);
    }
    return portrait;
  }
}
