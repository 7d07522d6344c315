import java.util.ArrayList;
import java.util.List;
import java.util.NoSuchElementException;

/** The promises by number: ordinary inputs, the edges that the document names, and wrong inputs. */
public final class PromisesTest {
  private static final Class<IllegalArgumentException> ARGUMENT = IllegalArgumentException.class;
  private static final Class<IllegalStateException> STATE = IllegalStateException.class;
  private static final int MIN = Integer.MIN_VALUE;
  private static final int MAX = Integer.MAX_VALUE;

  private PromisesTest() {
  }

  public static void main(String[] args) {
    newObject();
    place();
    corner();
    shape();
    route();
    letter();
    name();
    parent();
    parentOnSomeDays();
    remove();
    condition();
    nameConditions();
    placeConditions();
    routeCondition();
    clear();
    find();
    orderByName();
    orderByDistance();
    orderByRoute();
    near();
    hit();
    chain();
    holds();
    sound();
    folding();
    errors();
    watch();
    news();
    told();
    Check.end();
  }

  private static PlaceFinder withPlaces(int count) {
    PlaceFinder finder = new PlaceFinder();
    for (int i = 0; i < count; i++) {
      finder.place(i % 8);
    }
    return finder;
  }

  /** Places that are points from day 0 on, at x, y, x, y, .. */
  private static PlaceFinder withPoints(int... positions) {
    PlaceFinder finder = withPlaces(positions.length / 2);
    for (int i = 0; i < positions.length / 2; i++) {
      shape(finder, i, 0, positions[2 * i], positions[2 * i + 1]);
    }
    return finder;
  }

  private static void corners(PlaceFinder finder, int... positions) {
    for (int i = 0; i < positions.length; i += 2) {
      finder.corner(positions[i], positions[i + 1]);
    }
  }

  private static void shape(PlaceFinder finder, int id, int day, int... positions) {
    corners(finder, positions);
    finder.shape(id, day);
  }

  private static void route(PlaceFinder finder, int... positions) {
    corners(finder, positions);
    finder.route();
  }

  private static void type(PlaceFinder finder, String word) {
    for (char c : word.toCharArray()) {
      finder.letter(c);
    }
  }

  private static void name(PlaceFinder finder, int id, String word, int from, int to) {
    type(finder, word);
    finder.name(id, from, to);
  }

  private static void nameCondition(PlaceFinder finder, int kind, int a, String word) {
    type(finder, word);
    finder.condition(kind, a, 0, 0);
  }

  private static String hits(PlaceFinder finder, int count) {
    List<Integer> hits = new ArrayList<>();
    for (int i = 0; i < count; i++) {
      hits.add(finder.hit(i));
    }
    Check.refused("behind the last hit", IndexOutOfBoundsException.class, () -> finder.hit(count));
    return hits.toString();
  }

  private static String found(PlaceFinder finder, int day, int order) {
    return hits(finder, finder.find(day, order));
  }

  private static String met(PlaceFinder finder, int day, int kind, int a, int b, int c) {
    finder.clear();
    finder.condition(kind, a, b, c);
    return found(finder, day, 0);
  }

  private static String named(PlaceFinder finder, int day, int kind, int a, String word) {
    finder.clear();
    nameCondition(finder, kind, a, word);
    return found(finder, day, 0);
  }

  private static void newObject() {
    PlaceFinder x = new PlaceFinder();
    Check.due("1: finds none", 0, () -> x.find(0, 0));
    Check.due("1: none is near", 0, () -> x.near(0, 0, 30, -1, 0));
    Check.refused("1: no hits", IndexOutOfBoundsException.class, () -> new PlaceFinder().hit(0));
    Check.due("1: nothing is typed", 0, x::sound);
    Check.refused("1: no places, watches, corners", ARGUMENT, () -> x.chain(0, 0, 0),
        () -> x.news(0), () -> x.told(3), () -> x.shape(0, 0));
    Check.due("1: the first corner", 1, () -> x.corner(0, 0));
    Check.due("1: the first condition", 1, () -> x.condition(4, 0, 0, 0));
    Check.due("1: the first place", 0, () -> x.place(0));
    Check.due("1: objects are apart", 0, () -> new PlaceFinder().place(0));
  }

  private static void place() {
    PlaceFinder x = new PlaceFinder();
    Check.refused("2: no such kind", ARGUMENT, () -> x.place(-1), () -> x.place(8),
        () -> x.place(MIN), () -> x.place(MAX));
    for (int i = 0; i < 30; i++) {
      int number = i;
      Check.due("2: place", number, () -> x.place(number % 8));
    }
    Check.refused("2: there are thirty", STATE, () -> x.place(0), () -> x.place(7));
    Check.refused("2: the kind is looked at first", ARGUMENT, () -> x.place(8));
    shape(x, 29, 0, 1, 1);
    Check.due("2: its kind is kept", "[29]", () -> met(x, 0, 4, 5, 0, 0));
  }

  private static void corner() {
    PlaceFinder x = new PlaceFinder();
    Check.refused("3: no such coordinates", ARGUMENT, () -> x.corner(-1, 0), () -> x.corner(0, -1),
        () -> x.corner(4096, 0), () -> x.corner(0, 4096), () -> x.corner(MAX, MIN));
    for (int i = 1; i <= 8; i++) {
      int count = i;
      Check.due("3: corner", count, () -> x.corner(count % 2 * 4095, 4095 - count % 2 * 4095));
    }
    Check.refused("3: there are eight", STATE, () -> x.corner(0, 0), () -> x.corner(4095, 4095));
    Check.refused("3: the coordinates are looked at first", ARGUMENT, () -> x.corner(4096, 0));
    x.route();
    Check.due("3: none are collected then", 1, () -> x.corner(0, 0));
  }

  private static void shape() {
    PlaceFinder x = withPlaces(3);
    Check.refused("4: no corners", ARGUMENT, () -> x.shape(0, 5));
    x.corner(0, 0);
    Check.refused("4: no such place or day", ARGUMENT, () -> x.shape(-1, 5), () -> x.shape(3, 5),
        () -> x.shape(0, -1), () -> x.shape(0, 10000), () -> x.shape(MAX, MIN));
    x.corner(4095, 4095);
    Check.refused("4: two corners", ARGUMENT, () -> x.shape(0, 5));
    x.corner(2, 2);
    Check.refused("4: straight on", ARGUMENT, () -> x.shape(0, 5));
    Check.due("4: what is refused stays collected", 4, () -> x.corner(0, 4095));
    x.shape(0, 5);
    Check.due("4: none are collected then", 1, () -> x.corner(7, 7));
    Check.due("4: no shape before its day", -1, () -> x.holds(0, 0, 0, 4));
    Check.due("4: an area from its day on", 1, () -> x.holds(0, 0, 0, 5));
    Check.refused("4: one of this day or a later one", STATE, () -> x.shape(0, 5), () -> x.shape(0, 4));
    x.shape(0, 6);
    Check.due("4: the area until the next one", 1, () -> x.holds(0, 0, 0, 5));
    Check.due("4: a point then", -1, () -> x.holds(0, 0, 0, 6));
    shape(x, 0, 9999, 1, 1);
    Check.due("4: the point stays the day before", 1, () -> x.near(7, 7, 1, -1, 9998));
    Check.due("4: at its place", "[0]", () -> met(x, 9998, 7, 7, 7, 0));
    Check.due("4: the third one", "[0]", () -> met(x, 9999, 7, 1, 1, 0));
    x.corner(3, 3);
    shape(x, 1, 0);
    x.corner(3, 3);
    Check.refused("4: three shapes", STATE, () -> x.shape(0, 9999), () -> x.shape(0, 0));
    Check.refused("4: the day is looked at first", ARGUMENT, () -> x.shape(0, 10000));
    x.corner(4, 4);
    Check.refused("4: the corners are looked at first", ARGUMENT, () -> x.shape(0, 9999));
    x.route();
    corners(x, 0, 0, 4, 4, 4, 0, 0, 4);
    Check.refused("4: a bow whose surfaces make up for each other", ARGUMENT, () -> x.shape(2, 0));
    x.route();
    corners(x, 1, 0, 2, 1, 3, 2, 4, 3);
    Check.refused("4: straight on, beside 0, 0", ARGUMENT, () -> x.shape(2, 0));
    x.route();
    corners(x, 0, 4095, 4095, 4095, 4095, 0, 0, 0, 0, 1, 1, 1, 1, 2, 0, 2);
    x.shape(2, 0);
    Check.due("4: eight corners, the other way round", 1, () -> x.holds(2, 4095, 17, 0));
  }

  private static void route() {
    PlaceFinder x = withPoints(0, 0, 5, 5);
    x.condition(8, 0, 0, 0);
    Check.due("5: no route at first", "[]", () -> found(x, 0, 0));
    route(x, 0, 0, 9, 0);
    Check.due("5: a route", "[0]", () -> found(x, 0, 0));
    Check.due("5: none are collected then", 1, () -> x.corner(5, 5));
    x.route();
    Check.due("5: one corner: no route", "[]", () -> found(x, 0, 0));
    Check.due("5: and that one is not collected either", 1, () -> x.corner(5, 5));
    route(x, 5, 5);
    Check.due("5: a route of no length", "[1]", () -> found(x, 0, 0));
    x.route();
    Check.due("5: no corners: no route", "[]", () -> found(x, 0, 0));
    route(x, 9, 9, 8, 8, 9, 9, 8, 8, 9, 9, 8, 8, 6, 6, 4, 4);
    Check.due("5: eight corners", "[1]", () -> found(x, 0, 0));
  }

  private static void letter() {
    PlaceFinder x = withPlaces(1);
    for (int c : new int[] {'a' - 1, 'z' + 1, 'A', 'Z', 0, -1, 'a' + 256, 'a' + 65536, MIN, MAX}) {
      Check.due("6: no letter " + c, false, () -> x.letter(c));
    }
    Check.due("6: nothing is typed by them", 0, x::sound);
    for (int i = 0; i < 10; i++) {
      int c = i % 2 == 0 ? 'a' : 'z';
      Check.due("6: letter", true, () -> x.letter(c));
    }
    Check.due("6: ten are typed", false, () -> x.letter('a'));
    x.name(0, 0, 0);
    type(x, "azazazazaz");
    Check.due("6: just the ten were typed", 0, () -> x.errors(0, 0));
    PlaceFinder y = new PlaceFinder();
    y.letter('r');
    Check.due("6: in their order", 18 * 32 + 3, () -> y.letter('t') ? y.sound() : -1);
  }

  private static void name() {
    PlaceFinder x = withPoints(0, 0, 1, 1);
    Check.refused("7: nothing is typed", ARGUMENT, () -> x.name(0, 0, 9));
    type(x, "ab");
    Check.refused("7: no such place or span", ARGUMENT, () -> x.name(-1, 0, 9), () -> x.name(2, 0, 9),
        () -> x.name(0, -1, 9), () -> x.name(0, 0, 10000), () -> x.name(0, 5, 4),
        () -> x.name(0, 10000, 10000), () -> x.name(MAX, MIN, MAX));
    x.name(0, 3, 5);
    Check.due("7: nothing is typed then", 0, x::sound);
    x.letter('c');
    x.name(0, 9999, 9999);
    x.letter('d');
    Check.refused("7: two names", STATE, () -> x.name(0, 0, 0));
    Check.refused("7: the span is looked at first", ARGUMENT, () -> x.name(0, 1, 0));
    Check.due("7: what is refused stays typed", 4, x::sound);
    x.name(1, 0, 9999);
    Check.refused("7: the word is looked at before the names", ARGUMENT, () -> x.name(0, 0, 0));
    String[] dues = {"[]", "[0]", "[0]", "[]"};
    int[] days = {2, 3, 5, 6};
    for (int i = 0; i < days.length; i++) {
      int day = days[i];
      Check.due("7: a name on day " + day, dues[i], () -> named(x, day, 0, 0, "ab"));
    }
    Check.due("7: the other name", "[0]", () -> named(x, 9999, 0, 0, "c"));
    Check.due("7: of the other place", "[1]", () -> named(x, 9999, 0, 0, "d"));
  }

  private static void parent() {
    PlaceFinder x = withPlaces(4);
    Check.refused("8: no such places or span", ARGUMENT, () -> x.parent(-1, 0, 0, 9),
        () -> x.parent(0, -1, 0, 9), () -> x.parent(4, 0, 0, 9), () -> x.parent(0, 4, 0, 9),
        () -> x.parent(0, 1, -1, 9), () -> x.parent(0, 1, 0, 10000), () -> x.parent(0, 1, 5, 4),
        () -> x.parent(0, 0, 5, 4));
    Check.refused("8: its own parent", STATE, () -> x.parent(0, 0, 0, 0));
    x.parent(0, 1, 10, 20);
    Check.refused("8: a day in common", UnsupportedOperationException.class,
        () -> x.parent(0, 2, 20, 30), () -> x.parent(0, 2, 0, 10), () -> x.parent(0, 2, 12, 13),
        () -> x.parent(0, 2, 0, 9999), () -> x.parent(0, 1, 10, 20));
    Check.refused("8: that before being above itself", UnsupportedOperationException.class,
        () -> x.parent(0, 0, 20, 30));
    Check.refused("8: the span is looked at first", ARGUMENT, () -> x.parent(0, 2, 13, 12));
    x.parent(0, 2, 21, 21);
    x.parent(0, 3, 9, 9);
    x.parent(0, 3, 0, 0);
    Check.refused("8: four spans", STATE, () -> x.parent(0, 1, 5, 5));
    Check.refused("8: a day in common before four spans", UnsupportedOperationException.class,
        () -> x.parent(0, 1, 0, 5));
    Check.due("8: what is refused changes nothing", -1, () -> x.chain(0, 5, 0));
    Check.due("8: the parent on the days of the span", 1, () -> x.chain(0, 20, 0));
    Check.due("8: and on the next", 2, () -> x.chain(0, 21, 0));
    Check.due("8: none behind it", -1, () -> x.chain(0, 22, 0));
    x.parent(1, 3, 0, 9999);
    Check.due("8: another place has spans of its own", 3, () -> x.chain(0, 20, 1));
  }

  private static void parentOnSomeDays() {
    PlaceFinder x = withPlaces(30);
    for (int i = 0; i < 29; i++) {
      x.parent(i, i + 1, i == 7 ? 100 : 0, i == 20 ? 100 : 9999);
    }
    Check.refused("8: a circle on one day alone", STATE, () -> x.parent(29, 0, 0, 9999),
        () -> x.parent(29, 0, 100, 100), () -> x.parent(29, 0, 0, 100), () -> x.parent(29, 0, 100, 101));
    x.parent(29, 0, 0, 99);
    x.parent(29, 0, 101, 9999);
    Check.due("8: a long chain", 29, () -> x.chain(0, 100, 28));
    Check.due("8: its end", -1, () -> x.chain(0, 100, 29));
    Check.due("8: from the middle", 7, () -> x.chain(8, 99, 28));
    Check.due("8: to the middle", -1, () -> x.chain(8, 99, 29));
    PlaceFinder y = withPlaces(3);
    y.parent(0, 1, 0, 4);
    y.parent(0, 2, 5, 9);
    Check.refused("8: through the second span", STATE, () -> y.parent(2, 0, 9, 12));
    y.parent(2, 0, 0, 4);
    Check.due("8: not through the first", 1, () -> y.chain(2, 4, 1));
  }

  private static void remove() {
    PlaceFinder x = withPoints(0, 0, 1, 1);
    Check.refused("9: no such place or day", ARGUMENT, () -> x.remove(-1, 0), () -> x.remove(2, 0),
        () -> x.remove(0, -1), () -> x.remove(0, 10000));
    x.remove(0, 50);
    Check.refused("9: removed on that day already", STATE, () -> x.remove(0, 50), () -> x.remove(0, 51),
        () -> x.remove(0, 9999));
    Check.refused("9: the day is looked at first", ARGUMENT, () -> x.remove(0, 10000));
    Check.due("9: there the day before", "[0, 1]", () -> found(x, 49, 0));
    Check.due("9: not from the day on", "[1]", () -> found(x, 50, 0));
    x.remove(0, 49);
    Check.due("9: removed earlier", "[1]", () -> found(x, 49, 0));
    x.remove(1, 9999);
    Check.due("9: on the last day", "[]", () -> found(x, 9999, 0));
    x.remove(1, 0);
    Check.due("9: from the first day", "[0]", () -> found(x, 0, 0));
    shape(x, 0, 60, 4, 4);
    Check.due("9: a later shape does not bring it back", "[]", () -> found(x, 60, 0));
  }

  private static void condition() {
    PlaceFinder x = withPlaces(2);
    type(x, "ab");
    Check.refused("10: no such kind", ARGUMENT, () -> x.condition(-1, 0, 0, 0),
        () -> x.condition(9, 0, 0, 0), () -> x.condition(MIN, 0, 0, 0), () -> x.condition(MAX, 0, 0, 0));
    Check.refused("10: not as said", ARGUMENT, () -> x.condition(2, -1, 0, 0), () -> x.condition(2, 3, 0, 0),
        () -> x.condition(4, -1, 0, 0), () -> x.condition(4, 8, 0, 0), () -> x.condition(5, -1, 0, 0),
        () -> x.condition(5, 2, 0, 0), () -> x.condition(6, -1, 0, 0), () -> x.condition(6, 2, 0, 0),
        () -> x.condition(7, -1, 0, 0), () -> x.condition(7, 4096, 0, 0), () -> x.condition(7, 0, -1, 0),
        () -> x.condition(7, 0, 4096, 0), () -> x.condition(7, 0, 0, -1), () -> x.condition(7, 0, 0, 10001),
        () -> x.condition(8, -1, 0, 0), () -> x.condition(8, 10001, 0, 0));
    Check.due("10: those without a word", 1, () -> x.condition(4, 7, MIN, MAX));
    Check.due("10: leave the word", 33, x::sound);
    Check.due("10: what has no meaning is free", 2, () -> x.condition(0, MIN, MAX, -1));
    Check.due("10: the word is taken", 0, x::sound);
    Check.refused("10: nothing is typed", ARGUMENT, () -> x.condition(0, 0, 0, 0), () -> x.condition(1, 0, 0, 0),
        () -> x.condition(2, 0, 0, 0), () -> x.condition(3, 0, 0, 0));
    Check.due("10: a circle", 3, () -> x.condition(7, 4095, 4095, 10000));
    Check.due("10: a route", 4, () -> x.condition(8, 10000, MIN, MAX));
    type(x, "ab");
    Check.due("10: two errors", 5, () -> x.condition(2, 2, MAX, MIN));
    Check.refused("10: nothing is typed, before five", ARGUMENT, () -> x.condition(0, 0, 0, 0));
    type(x, "ab");
    Check.refused("10: there are five", STATE, () -> x.condition(4, 0, 0, 0), () -> x.condition(0, 0, 0, 0));
    Check.refused("10: the kind is looked at first", ARGUMENT, () -> x.condition(9, 0, 0, 0),
        () -> x.condition(4, 8, 0, 0));
    Check.due("10: what is refused stays typed", 33, x::sound);
    x.clear();
    Check.due("10: begins", 1, () -> x.condition(1, MIN, MAX, 0));
    Check.due("10: a place", 2, () -> x.condition(5, 1, MIN, MAX));
    Check.due("10: a place above", 3, () -> x.condition(6, 0, MIN, MAX));
  }

  private static void nameConditions() {
    PlaceFinder x = withPoints(0, 0, 1, 0, 2, 0, 3, 0, 4, 0, 5, 0);
    name(x, 0, "philipp", 0, 9);
    name(x, 1, "filipa", 0, 9);
    name(x, 2, "flip", 0, 9);
    name(x, 3, "vilip", 0, 9);
    name(x, 4, "other", 0, 9);
    name(x, 4, "fillip", 5, 9);
    Check.due("10, 0: the same when folded", "[0]", () -> named(x, 4, 0, 0, "filipp"));
    Check.due("10, 0: the second name, on its days", "[0, 4]", () -> named(x, 5, 0, 0, "phillip"));
    Check.due("10, 1: begins so", "[0, 1, 4]", () -> named(x, 5, 1, 0, "phil"));
    Check.due("10, 1: the whole word", "[0, 1]", () -> named(x, 4, 1, 0, "filip"));
    Check.due("10, 1: longer than the name", "[1]", () -> named(x, 4, 1, 0, "filipa"));
    Check.due("10, 2: no errors", "[0]", () -> named(x, 4, 2, 0, "filip"));
    Check.due("10, 2: one", "[0, 1, 2, 3]", () -> named(x, 4, 2, 1, "filip"));
    Check.due("10, 2: one of the other side", "[0, 2]", () -> named(x, 4, 2, 1, "flip"));
    Check.due("10, 2: two", "[0, 1, 2, 3]", () -> named(x, 4, 2, 2, "flip"));
    Check.due("10, 3: the same sound", "[0, 1, 2]", () -> named(x, 4, 3, 0, "felab"));
    Check.due("10, 3: the first letter counts", "[3]", () -> named(x, 4, 3, 0, "velab"));
    Check.due("10: no name on the day", "[]", () -> named(x, 10, 2, 2, "filip"));
    x.clear();
    nameCondition(x, 0, 0, "other");
    nameCondition(x, 0, 0, "filip");
    Check.due("10: each by a name of its own", "[4]", () -> found(x, 5, 0));
    Check.due("10: all must hold", "[]", () -> found(x, 4, 0));
  }

  private static void placeConditions() {
    PlaceFinder x = withPlaces(6);
    shape(x, 0, 0, 0, 0, 10, 0, 10, 10, 0, 10);
    shape(x, 1, 0, 10, 10);
    shape(x, 2, 0, 11, 10);
    shape(x, 3, 0, 1, 1, 9, 1, 5, 10);
    shape(x, 4, 0, 1, 1, 9, 1, 5, 11);
    shape(x, 0, 7, 3, 4);
    shape(x, 5, 3, 13, 14);
    Check.due("10, 4: of a kind", "[3]", () -> met(x, 0, 4, 3, 0, 0));
    Check.due("10, 4: not there yet", "[]", () -> met(x, 2, 4, 5, 0, 0));
    Check.due("10, 5: in an area", "[0, 1, 3]", () -> met(x, 0, 5, 0, 0, 0));
    Check.due("10, 5: no area on the day", "[]", () -> met(x, 7, 5, 0, 0, 0));
    Check.due("10, 5: a point is none", "[]", () -> met(x, 0, 5, 1, 0, 0));
    Check.due("10, 5: no shape at all", "[]", () -> met(x, 2, 5, 5, 0, 0));
    Check.due("10, 7: at most so far", "[0, 1, 2]", () -> met(x, 0, 7, 13, 14, 5));
    Check.due("10, 7: not so far", "[2]", () -> met(x, 0, 7, 13, 13, 4));
    Check.due("10, 7: by the nearest corner", "[0, 3, 4]", () -> met(x, 0, 7, 0, 0, 2));
    Check.due("10, 7: corners, not sides, nor the inside", "[]", () -> met(x, 0, 7, 5, 5, 4));
    Check.due("10, 7: of the shape of the day", "[0]", () -> met(x, 7, 7, 3, 5, 1));
    Check.due("10, 7: the greatest distance", "[0, 1, 2, 3, 4, 5]", () -> met(x, 9999, 7, 4095, 4095, 10000));
    x.remove(0, 5);
    Check.due("10, 5: an area stays one when it is removed", "[1, 3]", () -> met(x, 5, 5, 0, 0, 0));
    x.parent(1, 5, 0, 9);
    x.parent(5, 4, 5, 6);
    Check.due("10, 6: a parent, there or not", "[1]", () -> met(x, 2, 6, 5, 0, 0));
    Check.due("10, 6: one above it", "[1, 5]", () -> met(x, 5, 6, 4, 0, 0));
    Check.due("10, 6: on these days alone", "[]", () -> met(x, 7, 6, 4, 0, 0));
    Check.due("10, 6: not itself", "[]", () -> met(x, 5, 6, 1, 0, 0));
  }

  private static void routeCondition() {
    PlaceFinder x = withPoints(5, 3, 13, 4, 0, 5, 20, 20);
    route(x, 0, 0, 10, 0);
    Check.due("10, 8: above a side", "[0]", () -> met(x, 0, 8, 3, 0, 0));
    Check.due("10, 8: behind its end", "[0, 1, 2]", () -> met(x, 0, 8, 5, 0, 0));
    Check.due("10, 8: not so far", "[0]", () -> met(x, 0, 8, 4, 0, 0));
    PlaceFinder y = withPoints(1, 0, 4095, 4094, 0, 4095, 2, 0);
    route(y, 0, 0, 4095, 4094);
    // 1, 0 is 0.707 from the line and 2, 0 is 1.414; 0, 4095 is a little less than 2896 from it.
    Check.due("10, 8: exactly, on it", "[1]", () -> met(y, 0, 8, 0, 0, 0));
    Check.due("10, 8: exactly, less than 1", "[0, 1]", () -> met(y, 0, 8, 1, 0, 0));
    Check.due("10, 8: exactly, less than 2", "[0, 1, 3]", () -> met(y, 0, 8, 2, 0, 0));
    Check.due("10, 8: exactly, far", "[0, 1, 3]", () -> met(y, 0, 8, 2895, 0, 0));
    Check.due("10, 8: exactly, as far as that", "[0, 1, 2, 3]", () -> met(y, 0, 8, 2896, 0, 0));
    PlaceFinder z = withPlaces(1);
    shape(z, 0, 0, 5, 5, 15, 5, 10, 2);
    route(z, 0, 0, 20, 0);
    Check.due("10, 8: the nearest corner of an area", "[0]", () -> met(z, 0, 8, 2, 0, 0));
    Check.due("10, 8: no nearer", "[]", () -> met(z, 0, 8, 1, 0, 0));
    z.route();
    Check.due("10, 8: no route", "[]", () -> met(z, 0, 8, 10000, 0, 0));
  }

  private static void clear() {
    PlaceFinder x = withPoints(0, 0);
    x.condition(4, 7, 0, 0);
    x.letter('a');
    Check.due("11: before", 0, () -> x.find(0, 0));
    x.clear();
    Check.due("11: no conditions", 1, () -> x.find(0, 0));
    Check.due("11: what is typed stays", 1, x::sound);
    Check.due("11: what was found stays", 0, () -> x.hit(0));
    Check.due("11: the first one again", 1, () -> x.condition(0, 0, 0, 0));
    x.clear();
    x.clear();
    Check.due("11: twice", 1, () -> x.condition(4, 0, 0, 0));
  }

  private static void find() {
    PlaceFinder x = withPoints(0, 0, 1, 1, 2, 2);
    Check.due("12: all without conditions", "[0, 1, 2]", () -> found(x, 0, 0));
    Check.refused("12: no such day or order", ARGUMENT, () -> x.find(-1, 0), () -> x.find(10000, 0),
        () -> x.find(0, -1), () -> x.find(0, 4), () -> x.find(MIN, MAX));
    Check.due("12: what is refused changes nothing", 2, () -> x.hit(2));
    x.place(0);
    Check.due("12: none without a shape", "[0, 1, 2]", () -> found(x, 9999, 0));
    x.condition(4, 1, 0, 0);
    Check.due("12: that meet the conditions", "[1]", () -> found(x, 9999, 0));
    Check.due("12: the conditions stay", "[1]", () -> found(x, 0, 3));
    PlaceFinder y = withPlaces(30);
    for (int i = 0; i < 30; i++) {
      shape(y, i, i, i, i);
    }
    Check.due("12: thirty", 30, () -> y.find(29, 2));
    Check.due("12: as on the day", 29, () -> y.find(28, 0));
  }

  private static void orderByName() {
    PlaceFinder x = withPoints(0, 0, 0, 0, 0, 0, 0, 0, 0, 0);
    name(x, 0, "ba", 0, 9);
    name(x, 1, "abc", 0, 9);
    name(x, 1, "z", 0, 9);
    name(x, 3, "ab", 0, 9);
    name(x, 4, "zz", 0, 9);
    name(x, 4, "a", 5, 5);
    Check.due("12, 1: as in a lexicon, one without a name last", "[3, 1, 0, 4, 2]", () -> found(x, 4, 1));
    Check.due("12, 1: of the day", "[4, 3, 1, 0, 2]", () -> found(x, 5, 1));
    Check.due("12, 1: equal ones by number", "[0, 1, 2, 3, 4]", () -> found(x, 10, 1));
    nameCondition(x, 1, 0, "z");
    Check.due("12, 1: of those that meet the condition", "[1, 4]", () -> found(x, 5, 1));
    x.clear();
    x.condition(7, 0, 0, 0);
    nameCondition(x, 2, 1, "z");
    nameCondition(x, 2, 2, "ab");
    // Of the first one: place 1 has z alone, place 4 a and z; place 3's ab has two errors.
    Check.due("12, 1: the first name condition", "[4, 1]", () -> found(x, 5, 1));
    PlaceFinder y = withPoints(0, 0, 0, 0, 0, 0);
    name(y, 0, "pha", 0, 9);
    name(y, 1, "qua", 0, 9);
    name(y, 2, "ga", 0, 9);
    Check.due("12, 1: folded", "[0, 2, 1]", () -> found(y, 0, 1));
    PlaceFinder sounds = withPoints(0, 0, 0, 0);
    name(sounds, 0, "rat", 0, 9);
    name(sounds, 0, "a", 0, 9);
    name(sounds, 1, "radi", 0, 9);
    nameCondition(sounds, 3, 0, "rot");
    Check.due("12, 1: a sound is a name condition too", "[1, 0]", () -> found(sounds, 0, 1));
    PlaceFinder edges = withPoints(0, 0, 0, 0, 0, 0, 0, 0);
    name(edges, 0, "zyzyzyzyzy", 0, 9);
    name(edges, 1, "b", 0, 9);
    name(edges, 2, "azyzyzyzyz", 0, 9);
    name(edges, 3, "a", 0, 9);
    Check.due("12, 1: the last letters", "[3, 2, 1, 0]", () -> found(edges, 0, 1));
    PlaceFinder z = withPoints(0, 0, 0, 0);
    name(z, 0, "abababababab", 0, 9);
    name(z, 1, "ababababa", 0, 9);
    Check.due("12, 1: ten letters", "[1, 0]", () -> found(z, 0, 1));
  }

  private static void orderByDistance() {
    PlaceFinder x = withPoints(5, 5, 4, 4, 0, 7, 1, 1);
    shape(x, 3, 1, 9, 9, 8, 8, 6, 2);
    Check.due("12, 2: to 0, 0", "[3, 1, 2, 0]", () -> found(x, 0, 2));
    Check.due("12, 2: by the nearest corner", "[1, 3, 2, 0]", () -> found(x, 1, 2));
    x.condition(8, 10000, 0, 0);
    route(x, 0, 0, 1, 0);
    x.condition(7, 5, 6, 100);
    x.condition(7, 0, 0, 100);
    Check.due("12, 2: to the point of the first circle", "[0, 1, 3, 2]", () -> found(x, 1, 2));
    x.clear();
    x.condition(7, 0, 7, 100);
    Check.due("12, 2: a circle alone", "[2, 1, 0, 3]", () -> found(x, 1, 2));
    PlaceFinder y = withPoints(3, 4, 5, 0, 0, 5, 4, 3, 0, 0);
    Check.due("12, 2: equal ones by number", "[4, 0, 1, 2, 3]", () -> found(y, 0, 2));
  }

  private static void orderByRoute() {
    PlaceFinder x = withPoints(9, 9, 9, 1, 5, 3, 2, 8, 12, 0, 5, 1);
    Check.due("12, 3: no route, by number", "[0, 1, 2, 3, 4, 5]", () -> found(x, 0, 3));
    route(x, 0, 0, 10, 0, 10, 10);
    // 9, 1 and 2, 8 are as near to the first side as to the second; 12, 0 is nearest to their corner.
    Check.due("12, 3: along the route", "[3, 2, 5, 1, 4, 0]", () -> found(x, 0, 3));
    route(x, 10, 10, 10, 0, 0, 0);
    Check.due("12, 3: the other way", "[0, 3, 1, 4, 2, 5]", () -> found(x, 0, 3));
    PlaceFinder y = withPlaces(3);
    shape(y, 0, 0, 8, 1, 2, 1, 5, 9);
    shape(y, 1, 0, 3, 1);
    shape(y, 2, 0, 1, 5, 9, 1, 9, 5);
    route(y, 0, 0, 10, 0);
    Check.due("12, 3: an area's nearest corner, the first of several", "[0, 1, 2]", () -> found(y, 0, 3));
    PlaceFinder z = withPoints(4095, 4094, 4094, 4093, 0, 0);
    route(z, 0, 0, 0, 0, 4095, 4095);
    Check.due("12, 3: a side of no length, fractions exactly", "[2, 1, 0]", () -> found(z, 0, 3));
    PlaceFinder steps = withPoints(6, 23, 8, 15, 10, 10, 12, 11);
    route(steps, 10, 10, 12, 11);
    Check.due("12, 3: the smallest fractions", "[2, 1, 0, 3]", () -> found(steps, 0, 3));
    PlaceFinder shortest = withPoints(1, 0, 0, 0);
    route(shortest, 0, 0, 1, 0);
    Check.due("12, 3: the shortest side", "[1, 0]", () -> found(shortest, 0, 3));
    PlaceFinder crossing = withPoints(5, 5, 5, 0);
    route(crossing, 5, 0, 5, 10, 0, 5, 10, 5);
    Check.due("12, 3: where it crosses itself, the first time", "[1, 0]", () -> found(crossing, 0, 3));
    // In both the third side is the nearest to place 0, and place 1 stands where that side begins. In
    // the first one just a fraction of the square tells; in the second, products would not fit into longs.
    PlaceFinder narrow = withPoints(46, 25, 54, 21);
    route(narrow, 58, 8, 37, 35, 54, 21, 19, 34);
    Check.due("12, 3: the nearer side exactly", "[1, 0]", () -> found(narrow, 0, 3));
    PlaceFinder narrowBack = withPoints(46, 25, 54, 21);
    route(narrowBack, 19, 34, 54, 21, 37, 35, 58, 8);
    Check.due("12, 3: the nearer side exactly, the other way", "[0, 1]", () -> found(narrowBack, 0, 3));
    PlaceFinder wide = withPoints(2316, 2569, 2866, 3714);
    route(wide, 3091, 2979, 154, 184, 2866, 3714, 1957, 595);
    Check.due("12, 3: the nearer side far away", "[1, 0]", () -> found(wide, 0, 3));
  }

  private static void near() {
    PlaceFinder x = withPoints(3, 4, 0, 0, 5, 0, 4, 3);
    shape(x, 1, 10, 9, 9, 1, 0, 9, 0);
    x.condition(4, 0, 0, 0);
    Check.due("13: the nearest first, equal ones by number", "[1, 0, 2, 3]",
        () -> hits(x, x.near(0, 0, 30, -1, 0)));
    Check.due("13: n of them", "[1, 0, 2]", () -> hits(x, x.near(0, 0, 3, -1, 0)));
    Check.due("13: one", "[3]", () -> hits(x, x.near(4, 2, 1, -1, 0)));
    Check.due("13: of a kind", "[2]", () -> hits(x, x.near(0, 0, 2, 2, 0)));
    Check.due("13: none of a kind", "[]", () -> hits(x, x.near(0, 0, 2, 7, 0)));
    Check.due("13: as on the day, by the nearest corner", "[1, 2]", () -> hits(x, x.near(9, 0, 2, -1, 10)));
    x.remove(0, 5);
    Check.due("13: those that are there", "[1, 2, 3]", () -> hits(x, x.near(0, 0, 30, -1, 5)));
    Check.refused("13: no such numbers", ARGUMENT, () -> x.near(-1, 0, 1, -1, 0), () -> x.near(0, 4096, 1, -1, 0),
        () -> x.near(4096, 0, 1, -1, 0), () -> x.near(0, -1, 1, -1, 0), () -> x.near(0, 0, 0, -1, 0),
        () -> x.near(0, 0, 31, -1, 0), () -> x.near(0, 0, 1, -2, 0), () -> x.near(0, 0, 1, 8, 0),
        () -> x.near(0, 0, 1, -1, -1), () -> x.near(0, 0, 1, -1, 10000));
    Check.due("13: what is refused changes nothing", 3, () -> x.hit(2));
  }

  private static void hit() {
    PlaceFinder x = withPoints(9, 0, 1, 0);
    Class<IndexOutOfBoundsException> none = IndexOutOfBoundsException.class;
    Check.refused("14: nothing was found", none, () -> x.hit(0));
    x.find(0, 2);
    Check.due("14: the first", 1, () -> x.hit(0));
    Check.due("14: the last", 0, () -> x.hit(1));
    Check.refused("14: there is none", none, () -> x.hit(2), () -> x.hit(-1), () -> x.hit(MIN),
        () -> x.hit(MAX), () -> x.hit(30));
    shape(x, 1, 1, 20, 0);
    Check.due("14: as it was found", 1, () -> x.hit(0));
    x.near(9, 0, 1, -1, 0);
    Check.due("14: the latest", 0, () -> x.hit(0));
    Check.refused("14: of the latest there is one", none, () -> x.hit(1));
    x.condition(4, 7, 0, 0);
    x.find(0, 0);
    Check.refused("14: nothing was found again", none, () -> x.hit(0));
  }

  private static void chain() {
    PlaceFinder x = withPlaces(4);
    x.parent(0, 1, 0, 9);
    x.parent(1, 2, 5, 9);
    x.parent(0, 3, 10, 10);
    Check.due("15: the parent", 1, () -> x.chain(0, 5, 0));
    Check.due("15: the next", 2, () -> x.chain(0, 5, 1));
    Check.due("15: its end", -1, () -> x.chain(0, 5, 2));
    Check.due("15: far behind it", -1, () -> x.chain(0, 5, MAX));
    Check.due("15: on another day", -1, () -> x.chain(0, 4, 1));
    Check.due("15: another parent", 3, () -> x.chain(0, 10, 0));
    Check.due("15: none", -1, () -> x.chain(0, 11, 0));
    Check.due("15: none ever", -1, () -> x.chain(2, 5, 0));
    x.remove(1, 0);
    Check.due("15: over one that is removed", 2, () -> x.chain(0, 5, 1));
    Check.refused("15: no such place or day, or i is below 0", ARGUMENT, () -> x.chain(-1, 0, 0),
        () -> x.chain(4, 0, 0), () -> x.chain(0, -1, 0), () -> x.chain(0, 10000, 0), () -> x.chain(0, 0, -1),
        () -> x.chain(0, 0, MIN));
  }

  private static void holds() {
    PlaceFinder x = withPlaces(3);
    shape(x, 0, 5, 0, 0, 10, 0, 10, 10, 5, 5, 0, 10);
    shape(x, 0, 8, 4, 4);
    int[][] inside = {{0, 0}, {10, 10}, {5, 5}, {5, 0}, {0, 4}, {10, 5}, {7, 7}, {3, 7}, {1, 5}, {9, 8}, {5, 4}};
    int[][] outside = {{5, 6}, {5, 10}, {11, 0}, {11, 5}, {0, 11}, {4095, 4095}, {9, 10}, {6, 7}};
    for (int[] p : inside) {
      Check.due("16: inside " + p[0] + ", " + p[1], 1, () -> x.holds(0, p[0], p[1], 5));
    }
    for (int[] p : outside) {
      Check.due("16: outside " + p[0] + ", " + p[1], 0, () -> x.holds(0, p[0], p[1], 5));
    }
    PlaceFinder tilted = withPlaces(1);
    shape(tilted, 0, 0, 9, 1, 7, 9, 1, 3);
    Check.due("16: left of the first side", 1, () -> tilted.holds(0, 7, 7, 0));
    Check.due("16: on the first side", 1, () -> tilted.holds(0, 8, 5, 0));
    Check.due("16: right of the first side", 0, () -> tilted.holds(0, 9, 5, 0));
    Check.due("16: no shape yet", -1, () -> x.holds(0, 0, 0, 4));
    Check.due("16: a point is no area", -1, () -> x.holds(0, 4, 4, 8));
    Check.due("16: no shape at all", -1, () -> x.holds(1, 0, 0, 0));
    x.remove(0, 0);
    Check.due("16: removed or not", 1, () -> x.holds(0, 1, 1, 7));
    // The inner square is gone round twice, so a ray from it crosses two sides.
    shape(x, 2, 0, 2, 2, 20, 2, 20, 20, 8, 20, 8, 8, 14, 8, 14, 14, 2, 14);
    Check.due("16: covered twice", 0, () -> x.holds(2, 10, 10, 0));
    Check.due("16: covered once", 1, () -> x.holds(2, 4, 4, 0));
    Check.refused("16: no such place, coordinates or day", ARGUMENT, () -> x.holds(-1, 0, 0, 0),
        () -> x.holds(3, 0, 0, 0), () -> x.holds(0, -1, 0, 0), () -> x.holds(0, 4096, 0, 0),
        () -> x.holds(0, 0, -1, 0), () -> x.holds(0, 0, 4096, 0), () -> x.holds(0, 0, 0, -1),
        () -> x.holds(0, 0, 0, 10000));
  }

  private static void soundIs(String word, int... signs) {
    PlaceFinder x = new PlaceFinder();
    type(x, word);
    int due = 0;
    for (int sign : signs) {
      due = due * 32 + sign;
    }
    Check.due("17: the sound of " + word, due, x::sound);
    Check.due("17: it stays typed, " + word, due, x::sound);
  }

  private static void sound() {
    soundIs("");
    soundIs("a", 1);
    soundIs("z", 26);
    soundIs("philipp", 6, 4, 1);
    soundIs("robert", 18, 1, 6, 3);
    soundIs("bp", 2);
    soundIs("bap", 2, 1);
    soundIs("sabcdlmr", 19, 1, 2, 3);
    soundIs("abf", 1, 1);
    soundIs("ahk", 1, 2);
    soundIs("alrmnt", 1, 4, 6, 5);
    String classes = "01230120022455012623010202";
    for (char c = 'b'; c <= 'z'; c++) {
      int own = classes.charAt(c - 'a') - '0';
      if (own == 0) {
        soundIs("a" + c, 1);
      } else {
        soundIs("a" + c, 1, own);
      }
    }
  }

  private static void foldsTo(String word, String folded) {
    PlaceFinder x = withPoints(0, 0);
    name(x, 0, word, 0, 0);
    Check.due("folded " + word, "[0]", () -> named(x, 0, 1, 0, folded));
    type(x, folded);
    Check.due("folded " + word + " is " + folded, 0, () -> x.errors(0, 0));
  }

  /** Folded words here are such as fold to themselves, or need a letter that keeps them so. */
  private static void folding() {
    foldsTo("philipp", "filip");
    foldsTo("quack", "kak");
    foldsTo("thick", "tik");
    foldsTo("aaaaaaaaaa", "a");
    foldsTo("phf", "f");
    foldsTo("fph", "f");
    foldsTo("ckk", "k");
    foldsTo("kck", "k");
    foldsTo("ckqu", "k");
    foldsTo("thth", "t");
    foldsTo("tht", "t");
    foldsTo("phh", "fh");
    foldsTo("pqut", "pkt");
    PlaceFinder x = withPlaces(1);
    name(x, 0, "pph", 0, 0);
    type(x, "ph");
    Check.due("folded pph: the two become p, which joins with no h", 2, () -> x.errors(0, 0));
    x.condition(1, 0, 0, 0);
    type(x, "pphh");
    Check.due("folded pphh is that as well", 0, () -> x.errors(0, 0));
  }

  private static void errorsAre(int due, String one, String other) {
    PlaceFinder x = withPlaces(1);
    name(x, 0, one, 3, 4);
    type(x, other);
    Check.due("18: errors of " + one + " and " + other, due, () -> x.errors(0, 0));
    Check.due("18: it stays typed", due, () -> x.errors(0, 0));
  }

  private static void errors() {
    errorsAre(0, "abc", "abc");
    errorsAre(1, "abc", "abdc");
    errorsAre(1, "abc", "ac");
    errorsAre(1, "abc", "adc");
    errorsAre(1, "abc", "acb");
    errorsAre(3, "ca", "abc");
    errorsAre(3, "abc", "ca");
    errorsAre(2, "abcd", "badc");
    errorsAre(10, "abcdefgabc", "zyxwvzyxwv");
    errorsAre(9, "a", "abcdefgabc");
    errorsAre(0, "phillip", "filip");
    errorsAre(3, "kitten", "sitting");
    PlaceFinder x = withPlaces(2);
    Class<NoSuchElementException> none = NoSuchElementException.class;
    name(x, 0, "abc", 0, 0);
    Check.refused("18: nothing is typed", none, () -> x.errors(0, 0));
    x.letter('a');
    Check.refused("18: no such place or name", none, () -> x.errors(-1, 0), () -> x.errors(2, 0),
        () -> x.errors(1, 0), () -> x.errors(0, 1), () -> x.errors(0, -1), () -> x.errors(0, 2),
        () -> x.errors(MAX, MIN), () -> x.errors(0, MAX));
    x.name(0, 5, 5);
    type(x, "ab");
    Check.due("18: the second name", 1, () -> x.errors(0, 1));
    Check.due("18: the first", 1, () -> x.errors(0, 0));
    Check.refused("18: no third", none, () -> x.errors(0, 2));
  }

  private static void watch() {
    PlaceFinder x = withPoints(0, 0, 5, 5, 9, 9);
    Check.refused("19: no such watch or day", ARGUMENT, () -> x.watch(-1, 0), () -> x.watch(4, 0),
        () -> x.watch(0, -1), () -> x.watch(0, 10000));
    Check.refused("19: what is refused sets nothing", ARGUMENT, () -> x.news(0));
    route(x, 0, 0, 1, 0);
    x.condition(8, 0, 0, 0);
    x.watch(3, 9999);
    Check.due("19: the conditions stay collected", 2, () -> x.condition(4, 7, 0, 0));
    x.clear();
    route(x, 5, 5, 9, 9);
    Check.due("19: it keeps its conditions and route", "[0]", () -> hits(x, x.news(3)));
    x.watch(0, 0);
    Check.due("19: without conditions", 3, () -> x.news(0));
    Check.due("19: told", 3, () -> x.told(0));
    x.watch(0, 0);
    Check.due("19: set again, nothing was told yet", 3, () -> x.news(0));
    x.condition(8, 0, 0, 0);
    x.watch(0, 0);
    Check.due("19: set otherwise", "[1, 2]", () -> hits(x, x.news(0)));
    Check.due("19: the others are as they were", 1, () -> x.told(3));
    Check.refused("19: a refusal leaves the watch", ARGUMENT, () -> x.watch(0, -1));
    Check.due("19: as it was", 2, () -> x.news(0));
    Check.refused("19: one that was not set", ARGUMENT, () -> x.news(1), () -> x.told(2));
  }

  private static void news() {
    PlaceFinder x = withPoints(9, 0, 1, 0);
    Check.refused("20: no such watch, or it was not set", ARGUMENT, () -> x.news(0), () -> x.news(-1),
        () -> x.news(4), () -> x.news(MIN), () -> x.news(MAX));
    x.condition(7, 0, 0, 10);
    x.watch(0, 5);
    Check.due("20: found by number", "[0, 1]", () -> hits(x, x.news(0)));
    Check.due("20: nothing is told by that", 2, () -> x.news(0));
    x.told(0);
    Check.due("20: no news", "[]", () -> hits(x, x.news(0)));
    x.place(0);
    shape(x, 2, 6, 1, 1);
    Check.due("20: not on the watch's day", 0, () -> x.news(0));
    x.place(0);
    shape(x, 3, 5, 1, 1);
    Check.due("20: a new one", "[3]", () -> hits(x, x.news(0)));
    x.find(6, 0);
    Check.refused("20: a refusal leaves what was found", ARGUMENT, () -> x.news(1));
    Check.due("20: as it was", 3, () -> x.hit(3));
    x.clear();
    x.condition(6, 3, 0, 0);
    x.watch(1, 5);
    Check.due("20: none below it", 0, () -> x.news(1));
    x.parent(1, 3, 5, 5);
    Check.due("20: places as they are now", "[1]", () -> hits(x, x.news(1)));
  }

  private static void told() {
    PlaceFinder x = withPoints(0, 0, 5, 5);
    x.place(0);
    Check.refused("21: no such watch, or it was not set", ARGUMENT, () -> x.told(0), () -> x.told(-1),
        () -> x.told(4), () -> x.told(MIN), () -> x.told(MAX));
    x.condition(5, 2, 0, 0);
    x.watch(0, 5);
    x.watch(1, 5);
    Check.due("21: none", 0, () -> x.told(0));
    shape(x, 2, 1, 0, 0, 6, 0, 6, 6, 0, 6);
    x.near(9, 9, 1, 0, 0);
    Check.due("21: all that meet", 3, () -> x.told(0));
    Check.due("21: all, not the new ones alone", 3, () -> x.told(0));
    Check.due("21: what was found stays", "[0]", () -> hits(x, 1));
    Check.due("21: each watch by itself", 3, () -> x.news(1));
    shape(x, 2, 4, 1, 1, 6, 1, 6, 6);
    Check.due("21: fewer meet", 0, () -> x.news(0));
    Check.due("21: and no others", 2, () -> x.told(0));
    shape(x, 2, 5, 0, 0, 6, 0, 6, 6, 0, 6);
    Check.due("21: what was dropped is new again", "[0]", () -> hits(x, x.news(0)));
    Check.due("21: told again", 3, () -> x.told(0));
    Check.due("21: no news then", 0, () -> x.news(0));
    PlaceFinder y = withPlaces(30);
    shape(y, 29, 0, 1, 1);
    shape(y, 0, 0, 1, 1);
    y.watch(2, 0);
    Check.due("21: the last place too", 2, () -> y.told(2));
    Check.due("21: is told", 0, () -> y.news(2));
  }
}
