import java.math.BigInteger;
import java.util.ArrayList;
import java.util.Comparator;
import java.util.HashMap;
import java.util.HashSet;
import java.util.List;
import java.util.Map;
import java.util.NoSuchElementException;
import java.util.Set;
import java.util.TreeMap;
import java.util.stream.Collectors;

/** The document once more, slowly and with the Java library: what PlaceFinder is compared with. */
final class NaiveFinder {
  record Point(int x, int y) {
  }

  record Name(String folded, int from, int to) {
  }

  record Condition(int kind, int a, int b, int c, String folded) {
  }

  record Watch(List<Condition> conditions, List<Point> route, int day, Set<Integer> told) {
  }

  /** A fraction that is never rounded. */
  record Fraction(BigInteger above, BigInteger below) implements Comparable<Fraction> {
    static Fraction of(long above, long below) {
      return new Fraction(BigInteger.valueOf(above), BigInteger.valueOf(below));
    }

    @Override
    public int compareTo(Fraction other) {
      return above.multiply(other.below).compareTo(other.above.multiply(below));
    }
  }

  /** A point of a route, with the square of its distance to something. */
  record Spot(Fraction square, int side, Fraction part) {
    static final Comparator<Spot> BY_POSITION =
        Comparator.comparing(Spot::side).thenComparing(Spot::part);
    static final Comparator<Spot> NEAREST = Comparator.comparing(Spot::square).thenComparing(BY_POSITION);
  }

  static final class Place {
    int kind;
    Integer removed;
    final TreeMap<Integer, List<Point>> shapes = new TreeMap<>();
    final List<Name> names = new ArrayList<>();
    final int[] parentOfDay = new int[10000];
    int spans;

    List<Point> shape(int day) {
      var entry = shapes.floorEntry(day);
      return entry == null ? List.of() : entry.getValue();
    }

    boolean isThere(int day) {
      return !shape(day).isEmpty() && (removed == null || day < removed);
    }
  }

  private final List<Place> places = new ArrayList<>();
  private List<Point> corners = new ArrayList<>();
  private List<Point> route = List.of();
  private String typed = "";
  private final List<Condition> conditions = new ArrayList<>();
  private List<Integer> found = List.of();
  private final Map<Integer, Watch> watches = new HashMap<>();

  int place(int kind) {
    argument(in(kind, 0, 7));
    state(places.size() < 30);
    Place place = new Place();
    place.kind = kind;
    java.util.Arrays.fill(place.parentOfDay, -1);
    places.add(place);
    return places.size() - 1;
  }

  int corner(int x, int y) {
    argument(in(x, 0, 4095) && in(y, 0, 4095));
    state(corners.size() < 8);
    corners.add(new Point(x, y));
    return corners.size();
  }

  void shape(int id, int day) {
    argument(isPlace(id) && isDay(day));
    argument(corners.size() == 1 || corners.size() >= 3 && surface(corners) != 0);
    Place place = places.get(id);
    state(place.shapes.size() < 3 && place.shapes.tailMap(day).isEmpty());
    place.shapes.put(day, corners);
    corners = new ArrayList<>();
  }

  void route() {
    route = corners.size() < 2 ? List.of() : corners;
    corners = new ArrayList<>();
  }

  boolean letter(int c) {
    if (!in(c, 97, 122) || typed.length() == 10) {
      return false;
    }
    typed += (char) c;
    return true;
  }

  void name(int id, int from, int to) {
    argument(isPlace(id) && isSpan(from, to) && !typed.isEmpty());
    state(places.get(id).names.size() < 2);
    places.get(id).names.add(new Name(fold(typed), from, to));
    typed = "";
  }

  void parent(int id, int area, int from, int to) {
    argument(isPlace(id) && isPlace(area) && isSpan(from, to));
    Place place = places.get(id);
    for (int day = from; day <= to; day++) {
      if (place.parentOfDay[day] >= 0) {
        throw new UnsupportedOperationException();
      }
    }
    for (int day = from; day <= to; day++) {
      state(area != id && !chainOf(area, day).contains(id));
    }
    state(place.spans < 4);
    place.spans++;
    java.util.Arrays.fill(place.parentOfDay, from, to + 1, area);
  }

  void remove(int id, int day) {
    argument(isPlace(id) && isDay(day));
    Place place = places.get(id);
    state(place.removed == null || day < place.removed);
    place.removed = day;
  }

  int condition(int kind, int a, int b, int c) {
    argument(in(kind, 0, 8));
    argument(kind != 2 || in(a, 0, 2));
    argument(kind != 4 || in(a, 0, 7));
    argument(kind != 5 && kind != 6 || isPlace(a));
    argument(kind != 7 || in(a, 0, 4095) && in(b, 0, 4095) && in(c, 0, 10000));
    argument(kind != 8 || in(a, 0, 10000));
    argument(kind > 3 || !typed.isEmpty());
    state(conditions.size() < 5);
    conditions.add(new Condition(kind, a, b, c, kind > 3 ? "" : fold(typed)));
    typed = kind > 3 ? typed : "";
    return conditions.size();
  }

  void clear() {
    conditions.clear();
  }

  int find(int day, int order) {
    argument(isDay(day) && in(order, 0, 3));
    List<Integer> met = meeting(conditions, route, day);
    if (order == 1) {
      met.sort(Comparator.comparing(id -> leastName(id, day), Comparator.nullsLast(String::compareTo)));
    } else if (order == 2) {
      Point to = conditions.stream().filter(c -> c.kind == 7).map(c -> new Point(c.a, c.b))
          .findFirst().orElse(new Point(0, 0));
      met.sort(Comparator.comparing(id -> square(places.get(id).shape(day), to)));
    } else if (order == 3 && !route.isEmpty()) {
      met.sort(Comparator.comparing(id -> nearest(places.get(id).shape(day), route), Spot.BY_POSITION));
    }
    found = met;
    return found.size();
  }

  int near(int x, int y, int n, int kind, int day) {
    argument(in(x, 0, 4095) && in(y, 0, 4095) && in(n, 1, 30) && in(kind, -1, 7) && isDay(day));
    Point to = new Point(x, y);
    found = meeting(List.of(), List.of(), day).stream()
        .filter(id -> kind == -1 || places.get(id).kind == kind)
        .sorted(Comparator.comparing(id -> square(places.get(id).shape(day), to)))
        .limit(n).collect(Collectors.toList());
    return found.size();
  }

  int hit(int i) {
    if (!in(i, 0, found.size() - 1)) {
      throw new IndexOutOfBoundsException();
    }
    return found.get(i);
  }

  int chain(int id, int day, int i) {
    argument(isPlace(id) && isDay(day) && i >= 0);
    List<Integer> chain = chainOf(id, day);
    return i < chain.size() ? chain.get(i) : -1;
  }

  int holds(int id, int x, int y, int day) {
    argument(isPlace(id) && in(x, 0, 4095) && in(y, 0, 4095) && isDay(day));
    List<Point> shape = places.get(id).shape(day);
    return shape.size() < 3 ? -1 : liesIn(new Point(x, y), shape) ? 1 : 0;
  }

  int sound() {
    return sound(fold(typed));
  }

  int errors(int id, int name) {
    if (!isPlace(id) || !in(name, 0, places.get(id).names.size() - 1) || typed.isEmpty()) {
      throw new NoSuchElementException();
    }
    return errors(fold(typed), places.get(id).names.get(name).folded);
  }

  void watch(int w, int day) {
    argument(in(w, 0, 3) && isDay(day));
    watches.put(w, new Watch(List.copyOf(conditions), List.copyOf(route), day, new HashSet<>()));
  }

  int news(int w) {
    argument(watches.containsKey(w));
    Watch watch = watches.get(w);
    found = meeting(watch.conditions, watch.route, watch.day);
    found.removeAll(watch.told);
    return found.size();
  }

  int told(int w) {
    argument(watches.containsKey(w));
    Watch watch = watches.get(w);
    watch.told.clear();
    watch.told.addAll(meeting(watch.conditions, watch.route, watch.day));
    return watch.told.size();
  }

  private static boolean in(int number, int least, int most) {
    return least <= number && number <= most;
  }

  private static void argument(boolean isRight) {
    if (!isRight) {
      throw new IllegalArgumentException();
    }
  }

  private static void state(boolean isRight) {
    if (!isRight) {
      throw new IllegalStateException();
    }
  }

  private boolean isPlace(int id) {
    return in(id, 0, places.size() - 1);
  }

  private static boolean isDay(int day) {
    return in(day, 0, 9999);
  }

  private static boolean isSpan(int from, int to) {
    return isDay(from) && isDay(to) && from <= to;
  }

  private static long surface(List<Point> ring) {
    long sum = 0;
    for (int i = 0; i < ring.size(); i++) {
      Point p = ring.get(i);
      Point q = ring.get((i + 1) % ring.size());
      sum += (long) (p.x - q.x) * (p.y + q.y);
    }
    return sum;
  }

  private List<Integer> chainOf(int id, int day) {
    List<Integer> chain = new ArrayList<>();
    for (int up = places.get(id).parentOfDay[day]; up >= 0; up = places.get(up).parentOfDay[day]) {
      chain.add(up);
    }
    return chain;
  }

  private List<Integer> meeting(List<Condition> asked, List<Point> line, int day) {
    List<Integer> met = new ArrayList<>();
    for (int id = 0; id < places.size(); id++) {
      int number = id;
      if (places.get(id).isThere(day) && asked.stream().allMatch(c -> holdsFor(number, c, line, day))) {
        met.add(id);
      }
    }
    return met;
  }

  private boolean holdsFor(int id, Condition c, List<Point> line, int day) {
    Place place = places.get(id);
    List<Point> shape = place.shape(day);
    return switch (c.kind) {
      case 4 -> place.kind == c.a;
      case 5 -> {
        List<Point> area = places.get(c.a).shape(day);
        yield area.size() >= 3 && shape.stream().allMatch(p -> liesIn(p, area));
      }
      case 6 -> chainOf(id, day).contains(c.a);
      case 7 -> square(shape, new Point(c.a, c.b)) <= (long) c.c * c.c;
      case 8 -> !line.isEmpty()
          && nearest(shape, line).square.compareTo(Fraction.of((long) c.a * c.a, 1)) <= 0;
      default -> namesOf(id, day).stream().anyMatch(n -> nameMeets(n, c));
    };
  }

  private List<String> namesOf(int id, int day) {
    return places.get(id).names.stream().filter(n -> in(day, n.from, n.to)).map(Name::folded).toList();
  }

  private static boolean nameMeets(String name, Condition c) {
    return switch (c.kind) {
      case 0 -> name.equals(c.folded);
      case 1 -> name.startsWith(c.folded);
      case 2 -> errors(name, c.folded) <= c.a;
      default -> sound(name) == sound(c.folded);
    };
  }

  private String leastName(int id, int day) {
    var first = conditions.stream().filter(c -> c.kind < 4).findFirst();
    return namesOf(id, day).stream().filter(n -> first.isEmpty() || nameMeets(n, first.get()))
        .sorted().findFirst().orElse(null);
  }

  static String fold(String word) {
    return java.util.regex.Pattern.compile("ph|ck|qu|th|(.)\\1*").matcher(word)
        .replaceAll(m -> switch (m.group()) {
          case "ph" -> "f";
          case "ck", "qu" -> "k";
          case "th" -> "t";
          default -> m.group().substring(0, 1);
        })
        .replaceAll("(.)\\1+", "$1");
  }

  static int sound(String folded) {
    if (folded.isEmpty()) {
      return 0;
    }
    List<Integer> signs = new ArrayList<>(List.of(folded.charAt(0) - 'a' + 1));
    for (int i = 1; i < folded.length(); i++) {
      int own = soundClass(folded.charAt(i));
      if (own != 0 && own != soundClass(folded.charAt(i - 1))) {
        signs.add(own);
      }
    }
    return signs.stream().limit(4).reduce(0, (all, sign) -> all * 32 + sign);
  }

  private static int soundClass(char letter) {
    List<String> classes = List.of("bfpv", "cgjkqsxz", "dt", "l", "mn", "r");
    for (int i = 0; i < classes.size(); i++) {
      if (classes.get(i).indexOf(letter) >= 0) {
        return i + 1;
      }
    }
    return 0;
  }

  static int errors(String one, String other) {
    return errors(one, other, new HashMap<>());
  }

  private static int errors(String one, String other, Map<String, Integer> known) {
    if (one.isEmpty() || other.isEmpty()) {
      return one.length() + other.length();
    }
    String key = one + "/" + other;
    if (!known.containsKey(key)) {
      int least = 1 + errors(one.substring(1), other, known);
      least = Math.min(least, 1 + errors(one, other.substring(1), known));
      int exchanged = one.charAt(0) == other.charAt(0) ? 0 : 1;
      least = Math.min(least, exchanged + errors(one.substring(1), other.substring(1), known));
      if (one.length() > 1 && other.length() > 1
          && other.startsWith("" + one.charAt(1) + one.charAt(0))) {
        least = Math.min(least, 1 + errors(one.substring(2), other.substring(2), known));
      }
      known.put(key, least);
    }
    return known.get(key);
  }

  private static long square(Point p, Point q) {
    long dx = p.x - q.x;
    long dy = p.y - q.y;
    return dx * dx + dy * dy;
  }

  private static long square(List<Point> shape, Point to) {
    return shape.stream().mapToLong(p -> square(p, to)).min().orElseThrow();
  }

  private static boolean liesIn(Point p, List<Point> ring) {
    int crossed = 0;
    for (int i = 0; i < ring.size(); i++) {
      Point a = ring.get(i);
      Point b = ring.get((i + 1) % ring.size());
      if (isOnSide(p, a, b)) {
        return true;
      }
      if (a.y > p.y != b.y > p.y) {
        Point low = a.y < b.y ? a : b;
        Point high = a.y < b.y ? b : a;
        Fraction right = Fraction.of((long) (p.y - low.y) * (high.x - low.x), high.y - low.y);
        crossed += right.compareTo(Fraction.of(p.x - low.x, 1)) > 0 ? 1 : 0;
      }
    }
    return crossed % 2 == 1;
  }

  private static boolean isOnSide(Point p, Point a, Point b) {
    long turn = (long) (b.x - a.x) * (p.y - a.y) - (long) (b.y - a.y) * (p.x - a.x);
    return turn == 0 && square(p, a) <= square(a, b) && square(p, b) <= square(a, b);
  }

  private static Spot nearest(List<Point> shape, List<Point> line) {
    List<Spot> spots = new ArrayList<>();
    for (int side = 0; side + 1 < line.size(); side++) {
      for (Point p : shape) {
        spots.add(nearestOnSide(p, line.get(side), line.get(side + 1), side));
      }
    }
    return spots.stream().min(Spot.NEAREST).orElseThrow();
  }

  /** By the quadratic that gives the square of the distance for a part t = n / l of the side. */
  private static Spot nearestOnSide(Point p, Point a, Point b, int side) {
    long length = square(a, b);
    if (length == 0) {
      return new Spot(Fraction.of(square(p, a), 1), side, Fraction.of(0, 1));
    }
    long inner = (long) (p.x - a.x) * (b.x - a.x) + (long) (p.y - a.y) * (b.y - a.y);
    long n = Math.max(0, Math.min(length, inner));
    BigInteger l = BigInteger.valueOf(length);
    BigInteger t = BigInteger.valueOf(n);
    BigInteger above = BigInteger.valueOf(square(p, a)).multiply(l)
        .subtract(t.multiply(BigInteger.valueOf(2 * inner))).add(t.multiply(t));
    return new Spot(new Fraction(above, l), side, new Fraction(t, l));
  }
}
