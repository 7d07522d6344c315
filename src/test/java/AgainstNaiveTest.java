import java.util.Random;

/** Random runs of calls, whose answers must be those of the slow second form of the document. */
public final class AgainstNaiveTest {
  private static final int RUNS = 1500;
  private static final int CALLS = 512;
  private static final int[] SCALES = {3, 6, 12, 60, 4095};
  private static final String[] ALPHABETS =
      {"ab", "pphf", "ckquth", "pphckkqutthab", "abcdefghijklmnopqrstuvwxyz"};
  /** Numbers at the edges of what the document allows somewhere. */
  private static final int[] ODD =
      {-1, Integer.MIN_VALUE, Integer.MAX_VALUE, 30, 4096, 10000, 10001, 9999, 8, 9, 5, 3, 4};

  private final Random random;
  private final PlaceFinder real = new PlaceFinder();
  private final NaiveFinder naive = new NaiveFinder();
  private final String run;
  private final int scale;
  private final String alphabet;
  private final int lastDay;
  private final int mostPlaces;
  private int placed = 0;
  private int calls = 0;

  private AgainstNaiveTest(int seed) {
    random = new Random(seed);
    run = "run " + seed + ": ";
    scale = SCALES[random.nextInt(SCALES.length)];
    alphabet = ALPHABETS[random.nextInt(ALPHABETS.length)];
    lastDay = random.nextBoolean() ? 12 : 9999;
    mostPlaces = random.nextBoolean() ? 6 : 40;
  }

  public static void main(String[] args) {
    for (int seed = 0; seed < RUNS && Check.wrongs() == 0; seed++) {
      AgainstNaiveTest test = new AgainstNaiveTest(seed);
      while (test.calls < CALLS && Check.wrongs() == 0) {
        test.step();
      }
    }
    Check.end();
  }

  private int odd(int usual) {
    return random.nextInt(60) == 0 ? ODD[random.nextInt(ODD.length)] : usual;
  }

  private int coordinate() {
    return odd(random.nextInt(scale + 1));
  }

  private int day() {
    return odd(random.nextInt(lastDay + 1));
  }

  private int id() {
    return odd(random.nextInt(placed + 1));
  }

  private void same(String call, Check.Call inReal, Check.Call inNaive) {
    calls++;
    if (calls <= CALLS) {
      Check.due(run + call, Check.outcome(inNaive), inReal);
    }
  }

  private void sameDeed(String call, Check.Deed inReal, Check.Deed inNaive) {
    same(call, () -> Check.done(inReal), () -> Check.done(inNaive));
  }

  private void step() {
    int choice = random.nextInt(100);
    if (placed < mostPlaces && choice < 15) {
      newPlace();
    } else if (choice < 30) {
      shape();
    } else if (choice < 34) {
      route();
    } else if (choice < 46) {
      name();
    } else if (choice < 54) {
      parent();
    } else if (choice < 56) {
      remove();
    } else if (choice < 66) {
      condition();
    } else if (choice < 70) {
      sameDeed("clear()", real::clear, naive::clear);
    } else {
      ask(choice);
    }
  }

  private void ask(int choice) {
    if (choice < 78) {
      find();
    } else if (choice < 82) {
      near();
    } else if (choice < 85) {
      chain();
    } else if (choice < 88) {
      holds();
    } else if (choice < 91) {
      wordAnswers();
    } else if (choice < 94) {
      int w = odd(random.nextInt(4));
      int day = day();
      sameDeed("watch(" + w + ", " + day + ")", () -> real.watch(w, day), () -> naive.watch(w, day));
    } else {
      news();
    }
  }

  private void newPlace() {
    int kind = odd(random.nextInt(3));
    same("place(" + kind + ")", () -> real.place(kind), () -> naive.place(kind));
    placed = Math.min(30, placed + (kind >= 0 && kind <= 7 ? 1 : 0));
  }

  private void corners(int count) {
    for (int i = 0; i < count; i++) {
      int x = coordinate();
      int y = coordinate();
      same("corner(" + x + ", " + y + ")", () -> real.corner(x, y), () -> naive.corner(x, y));
    }
  }

  private void shape() {
    corners(random.nextBoolean() ? 1 : random.nextInt(10));
    int id = id();
    int day = day();
    sameDeed("shape(" + id + ", " + day + ")", () -> real.shape(id, day), () -> naive.shape(id, day));
    if (random.nextInt(3) > 0) {
      // What was refused stays collected: without this most later shapes would be refused too.
      sameDeed("route()", real::route, naive::route);
    }
  }

  private void route() {
    corners(random.nextInt(9));
    sameDeed("route()", real::route, naive::route);
  }

  private void letters() {
    int count = random.nextInt(random.nextInt(12) + 1);
    for (int i = 0; i < count; i++) {
      int c = odd(alphabet.charAt(random.nextInt(alphabet.length())));
      same("letter(" + c + ")", () -> real.letter(c), () -> naive.letter(c));
    }
  }

  private void name() {
    letters();
    int id = id();
    int from = day();
    int to = odd(from + random.nextInt(lastDay));
    sameDeed("name(" + id + ", " + from + ", " + to + ")",
        () -> real.name(id, from, to), () -> naive.name(id, from, to));
  }

  private void parent() {
    int id = id();
    int area = id();
    int from = day();
    int to = odd(from + random.nextInt(lastDay));
    sameDeed("parent(" + id + ", " + area + ", " + from + ", " + to + ")",
        () -> real.parent(id, area, from, to), () -> naive.parent(id, area, from, to));
  }

  private void remove() {
    int id = id();
    int day = day();
    sameDeed("remove(" + id + ", " + day + ")", () -> real.remove(id, day), () -> naive.remove(id, day));
  }

  private void condition() {
    int kind = odd(random.nextInt(9));
    if (kind <= 3) {
      letters();
    }
    boolean isDistance = kind == 7 || kind == 8;
    int a = odd(isDistance ? coordinate() : kind == 4 || kind == 2 ? random.nextInt(3) : id());
    int b = coordinate();
    int c = odd(random.nextInt(scale + 1));
    same("condition(" + kind + ", " + a + ", " + b + ", " + c + ")",
        () -> real.condition(kind, a, b, c), () -> naive.condition(kind, a, b, c));
  }

  private void hits() {
    for (int i = -1; i <= placed; i++) {
      int at = i;
      same("hit(" + at + ")", () -> real.hit(at), () -> naive.hit(at));
    }
  }

  private void find() {
    int day = day();
    int order = odd(random.nextInt(4));
    same("find(" + day + ", " + order + ")", () -> real.find(day, order), () -> naive.find(day, order));
    hits();
  }

  private void near() {
    int x = coordinate();
    int y = coordinate();
    int n = odd(1 + random.nextInt(30));
    int kind = odd(random.nextInt(4) - 1);
    int day = day();
    same("near(" + x + ", " + y + ", " + n + ", " + kind + ", " + day + ")",
        () -> real.near(x, y, n, kind, day), () -> naive.near(x, y, n, kind, day));
    hits();
  }

  private void chain() {
    int id = id();
    int day = day();
    int i = odd(random.nextInt(5));
    same("chain(" + id + ", " + day + ", " + i + ")",
        () -> real.chain(id, day, i), () -> naive.chain(id, day, i));
  }

  private void holds() {
    int id = id();
    int x = coordinate();
    int y = coordinate();
    int day = day();
    same("holds(" + id + ", " + x + ", " + y + ", " + day + ")",
        () -> real.holds(id, x, y, day), () -> naive.holds(id, x, y, day));
  }

  private void wordAnswers() {
    letters();
    same("sound()", real::sound, naive::sound);
    int id = id();
    int name = odd(random.nextInt(2));
    same("errors(" + id + ", " + name + ")", () -> real.errors(id, name), () -> naive.errors(id, name));
  }

  private void news() {
    int w = odd(random.nextInt(4));
    same("news(" + w + ")", () -> real.news(w), () -> naive.news(w));
    hits();
    if (random.nextBoolean()) {
      same("told(" + w + ")", () -> real.told(w), () -> naive.told(w));
    }
    hits();
  }
}
