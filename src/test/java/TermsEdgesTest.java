import java.util.NoSuchElementException;

/** The document's terms: for each sentence that names a limit, the edge itself and both sides of it. */
public final class TermsEdgesTest {
  private static final Class<IllegalArgumentException> ARGUMENT = IllegalArgumentException.class;
  private static final Class<IllegalStateException> STATE = IllegalStateException.class;
  private static final Class<NoSuchElementException> NO_ELEMENT = NoSuchElementException.class;

  private TermsEdgesTest() {
  }

  public static void main(String[] args) {
    placesAtMostThirty();
    noSuchPlace();
    kinds();
    days();
    daysOfSpans();
    spansHaveBothDays();
    spansInOrder();
    coordinates();
    distances();
    shapesUntilTheNext();
    shapesAtMostThree();
    shapesOfLaterDays();
    cornersOfShapes();
    notStraightOn();
    onASide();
    oddNumberOfSides();
    thereOrNot();
    whereAPlaceStands();
    lettersOfAName();
    namesAtMostTwo();
    Check.end();
  }

  private static Run places(int count) {
    return new Run().places(new int[count]);
  }

  private static void placesAtMostThirty() {
    String what = "PLACES are numbered 0, 1, .., at most 30: ";
    for (int count : new int[] {0, 1, 2, 28, 29}) {
      places(count).due(what + "after " + count, count, x -> x.place(3));
    }
    places(30).refuses(what + "after 30", STATE, x -> x.place(0), x -> x.place(7));
    Run last = places(29).places(6).shape(29, 0, 1, 1);
    last.due(what + "the last one is a place as others", 1, x -> x.near(0, 0, 30, 6, 0));
  }

  private static void noSuchPlace() {
    for (int count : new int[] {0, 1, 2, 30}) {
      Run run = places(count).typed("ab").corners(3, 3);
      String what = "there is no such place, of " + count + ": ";
      int last = count - 1;
      run.range(what + "shape", 0, last, ARGUMENT, (x, id) -> x.shape(id, 5));
      run.range(what + "name", 0, last, ARGUMENT, (x, id) -> x.name(id, 5, 6));
      run.range(what + "remove", 0, last, ARGUMENT, (x, id) -> x.remove(id, 5));
      run.range(what + "condition 5", 0, last, ARGUMENT, (x, id) -> x.condition(5, id, 0, 0));
      run.range(what + "condition 6", 0, last, ARGUMENT, (x, id) -> x.condition(6, id, 0, 0));
      run.range(what + "chain", 0, last, ARGUMENT, (x, id) -> x.chain(id, 5, 0));
      run.range(what + "holds", 0, last, ARGUMENT, (x, id) -> x.holds(id, 1, 1, 5));
    }
    // A place in the middle has names and is free to be a parent, so that only the other number counts.
    for (int count : new int[] {3, 29}) {
      Run run = places(count).places(0);
      for (int id = 0; id <= count; id++) {
        run = run.name(id, "ab", 0, 0);
      }
      run = run.typed("cd");
      String what = "there is no such place, of " + (count + 1) + ": ";
      run.range(what + "errors", 0, count, NO_ELEMENT, (x, id) -> x.errors(id, 0));
      run.range(what + "parent", 0, count, ARGUMENT, (x, id) -> x.parent(id, id == 2 ? 1 : 2, 5, 6));
      run.range(what + "parent's area", 0, count, ARGUMENT, (x, id) -> x.parent(id == 2 ? 1 : 2, id, 5, 6));
    }
    new Run().typed("a").refuses("there is no place at all: errors", NO_ELEMENT, x -> x.errors(0, 0));
    new Run().refuses("there is no place at all: parent", ARGUMENT, x -> x.parent(0, 0, 0, 0));
  }

  private static void kinds() {
    String what = "a KIND 0 .. 7: ";
    Run book = Book.book();
    book.range(what + "place", 0, 7, ARGUMENT, (x, kind) -> x.place(kind));
    book.range(what + "condition 4", 0, 7, ARGUMENT, (x, kind) -> x.condition(4, kind, 0, 0));
    book.range(what + "near, -1 is any", -1, 7, ARGUMENT, (x, kind) -> x.near(0, 0, 1, kind, 0));
    Run each = new Run().places(0, 1, 2, 3, 4, 5, 6, 7);
    for (int id = 0; id < 8; id++) {
      each = each.shape(id, 0, id, 0);
    }
    for (int kind = 0; kind < 8; kind++) {
      int asked = kind;
      each.condition(4, kind, 0, 0).finds(what + "found " + kind, "[" + kind + "]", 0, 0);
      each.due(what + "near " + kind, "[" + kind + "]", x -> Run.near(x, 0, 0, 30, asked, 0));
    }
    each.due(what + "near, any", 8, x -> x.near(0, 0, 30, -1, 0));
  }

  private static void days() {
    String what = "A DAY is a number 0 .. 9999: ";
    Run book = Book.book();
    book.range(what + "shape", 0, 9999, ARGUMENT, (x, day) -> x.shape(2, day));
    book.range(what + "remove", 0, 9999, ARGUMENT, (x, day) -> x.remove(0, day));
    book.range(what + "find", 0, 9999, ARGUMENT, (x, day) -> x.find(day, 0));
    book.range(what + "near", 0, 9999, ARGUMENT, (x, day) -> x.near(0, 0, 1, -1, day));
    book.range(what + "chain", 0, 9999, ARGUMENT, (x, day) -> x.chain(0, day, 0));
    book.range(what + "holds", 0, 9999, ARGUMENT, (x, day) -> x.holds(0, 0, 0, day));
    book.range(what + "watch", 0, 9999, ARGUMENT, (x, day) -> x.watch(0, day));
    Run first = places(1).shape(0, 0, 1, 1);
    first.finds(what + "a shape of the first day", "[0]", 0, 0);
    first.finds(what + "and of the last one", "[0]", 9999, 0);
    first.then(x -> x.remove(0, 0)).finds(what + "removed on the first day", "[]", 0, 0);
    Run last = places(1).shape(0, 9999, 1, 1);
    last.finds(what + "a shape of the last day", "[0]", 9999, 0);
    last.finds(what + "not the day before", "[]", 9998, 0);
    last.then(x -> x.remove(0, 9999)).finds(what + "removed on the last day", "[]", 9999, 0);
  }

  private static void daysOfSpans() {
    String what = "A DAY of a span is a number 0 .. 9999: ";
    Run book = Book.book();
    book.range(what + "name from", 0, 9999, ARGUMENT, (x, day) -> x.name(2, day, 9999));
    book.range(what + "name to", 0, 9999, ARGUMENT, (x, day) -> x.name(2, 0, day));
    book.range(what + "name from and to", 0, 9999, ARGUMENT, (x, day) -> x.name(2, day, day));
    book.range(what + "parent from", 0, 9999, ARGUMENT, (x, day) -> x.parent(2, 4, day, 9999));
    book.range(what + "parent to", 0, 9999, ARGUMENT, (x, day) -> x.parent(2, 4, 0, day));
    book.range(what + "parent from and to", 0, 9999, ARGUMENT, (x, day) -> x.parent(2, 4, day, day));
  }

  private static void spansHaveBothDays() {
    String what = "a SPAN from .. to has both its days: ";
    int[][] spans = {{5, 9}, {7, 7}, {0, 0}, {0, 1}, {9999, 9999}, {9998, 9999}, {0, 9999}};
    for (int[] span : spans) {
      int from = span[0];
      int to = span[1];
      Run named = new Run().points(1, 1).name(0, "ab", from, to).condition(0, 0, "ab");
      Run below = new Run().points(1, 1, 2, 2).parent(0, 1, from, to).condition(6, 1, 0, 0);
      for (int day : new int[] {from - 1, from, from + 1, to - 1, to, to + 1}) {
        if (day >= 0 && day <= 9999) {
          boolean isIn = day >= from && day <= to;
          String label = what + from + " .. " + to + " on " + day;
          named.finds(label + ", a name", isIn ? "[0]" : "[]", day, 0);
          below.due(label + ", a parent", isIn ? 1 : -1, x -> x.chain(0, day, 0));
          below.finds(label + ", one below", isIn ? "[0]" : "[]", day, 0);
        }
      }
    }
  }

  private static void spansInOrder() {
    String what = "no such span, its last day before its first: ";
    Run book = Book.book();
    int[] firsts = {1, 2, 6000, 9999};
    for (int from : firsts) {
      book.takes(what + "the same day", x -> x.name(2, from, from), x -> x.parent(2, 4, from, from));
      book.takes(what + "one day on", x -> x.name(2, from - 1, from), x -> x.parent(2, 4, from - 1, from));
      book.refuses(what + "one day back", ARGUMENT, x -> x.name(2, from, from - 1),
          x -> x.parent(2, 4, from, from - 1));
    }
    book.refuses(what + "all the way", ARGUMENT, x -> x.name(2, 9999, 0), x -> x.parent(2, 4, 9999, 0));
  }

  private static void coordinates() {
    String what = "COORDINATES x, y are 0 .. 4095: ";
    Run book = Book.book();
    book.range(what + "corner x", 0, 4095, ARGUMENT, (x, n) -> x.corner(n, 9));
    book.range(what + "corner y", 0, 4095, ARGUMENT, (x, n) -> x.corner(9, n));
    book.range(what + "near x", 0, 4095, ARGUMENT, (x, n) -> x.near(n, 9, 1, -1, 0));
    book.range(what + "near y", 0, 4095, ARGUMENT, (x, n) -> x.near(9, n, 1, -1, 0));
    book.range(what + "holds x", 0, 4095, ARGUMENT, (x, n) -> x.holds(0, n, 9, 5));
    book.range(what + "holds y", 0, 4095, ARGUMENT, (x, n) -> x.holds(0, 9, n, 5));
    book.range(what + "condition 7 a", 0, 4095, ARGUMENT, (x, n) -> x.condition(7, n, 9, 9));
    book.range(what + "condition 7 b", 0, 4095, ARGUMENT, (x, n) -> x.condition(7, 9, n, 9));
    Run all = places(1).shape(0, 0, 0, 0, 4095, 0, 4095, 4095, 0, 4095);
    int[][] corners = {{0, 0}, {4095, 0}, {0, 4095}, {4095, 4095}, {4094, 1}};
    for (int[] p : corners) {
      all.due(what + "the whole sheet holds", 1, x -> x.holds(0, p[0], p[1], 0));
    }
    Run most = places(1).shape(0, 0, 1, 1, 4094, 1, 4094, 4094, 1, 4094);
    for (int i = 0; i < 4; i++) {
      int[] p = corners[i];
      most.due(what + "one within does not", 0, x -> x.holds(0, p[0], p[1], 0));
    }
  }

  private static void distances() {
    String what = "Distances are compared exactly, by squares: ";
    Run points = new Run().points(4000, 0, 4000, 1, 0, 4000, 1, 4000, 3999, 89);
    // The last one's square is 3999 * 3999 + 89 * 89 = 15999922, 78 less than 4000 * 4000.
    points.condition(7, 0, 0, 4000).finds(what + "at most 4000", "[0, 2, 4]", 0, 0);
    points.condition(7, 0, 0, 3999).finds(what + "at most 3999", "[]", 0, 0);
    points.condition(7, 0, 0, 4001).finds(what + "at most 4001", "[0, 1, 2, 3, 4]", 0, 0);
    points.finds(what + "one of 16 million apart", "[4, 0, 2, 1, 3]", 0, 2);
    points.due(what + "near too", "[4, 0, 2]", x -> Run.near(x, 0, 0, 3, -1, 0));
    Run far = new Run().points(4095, 4095, 4094, 4095, 4095, 4094);
    far.finds(what + "the farthest", "[1, 2, 0]", 0, 2);
    String fractions = "Distances are compared exactly, by fractions: ";
    Run less = new Run().points(2254, 2963).route(0, 0, 3473, 677);
    // Its square is 2477 * 2477 less one of 3473 * 3473 + 677 * 677, which no double can tell.
    less.condition(8, 2477, 0, 0).finds(fractions + "a hair less", "[0]", 0, 0);
    less.condition(8, 2476, 0, 0).finds(fractions + "not one less", "[]", 0, 0);
    Run more = new Run().points(235, 2559).route(0, 0, 3980, 673);
    more.condition(8, 2484, 0, 0).finds(fractions + "a hair more", "[]", 0, 0);
    more.condition(8, 2485, 0, 0).finds(fractions + "one more", "[0]", 0, 0);
    Run same = new Run().points(1200, 2150).route(0, 0, 4000, 3000);
    // 4000 * 2150 - 3000 * 1200 is 1000 times the side's length of 5000.
    same.condition(8, 1000, 0, 0).finds(fractions + "just that", "[0]", 0, 0);
    same.condition(8, 999, 0, 0).finds(fractions + "one less than that", "[]", 0, 0);
    Run along = new Run().points(2001, 1999, 2000, 2000).route(0, 0, 4095, 4094);
    along.finds(fractions + "one of 33 million along a side", "[1, 0]", 0, 3);
  }

  private static void shapesUntilTheNext() {
    String what = "a SHAPE is valid from a day on, until the next one of the place begins: ";
    Run run = places(1).shape(0, 5, 0, 0, 9, 0, 9, 9).shape(0, 7, 3, 3).shape(0, 8, 0, 0, 9, 0, 0, 9);
    int[] days = {0, 4, 5, 6, 7, 8, 9, 9999};
    int[] left = {-1, -1, 0, 0, -1, 1, 1, 1};
    for (int i = 0; i < days.length; i++) {
      int day = days[i];
      run.due(what + "day " + day, left[i], x -> x.holds(0, 0, 5, day));
      run.finds(what + "there on day " + day, day < 5 ? "[]" : "[0]", day, 0);
      run.condition(7, 3, 3, 0).finds(what + "the point on day " + day, day == 7 ? "[0]" : "[]", day, 0);
    }
  }

  private static void shapesAtMostThree() {
    String what = "at most 3 SHAPES for a place: ";
    Run run = places(2);
    for (int count = 0; count < 3; count++) {
      int day = count;
      run.corners(1, 1).takes(what + "after " + count, x -> x.shape(0, day));
      run = run.shape(0, count, count, count);
    }
    run.corners(9, 9).refuses(what + "after three", STATE, x -> x.shape(0, 3), x -> x.shape(0, 9999),
        x -> x.shape(0, 2), x -> x.shape(0, 0));
    run.corners(9, 9).takes(what + "another place has its own", x -> x.shape(1, 0));
    run.condition(7, 2, 2, 0).finds(what + "the third one counts", "[0]", 2, 0);
  }

  private static void shapesOfLaterDays() {
    String what = "each SHAPE of a later day than the one before: ";
    Run one = places(1).shape(0, 50, 1, 1).corners(2, 2);
    one.refuses(what + "the same day", STATE, x -> x.shape(0, 50));
    one.refuses(what + "the day before", STATE, x -> x.shape(0, 49), x -> x.shape(0, 0));
    one.takes(what + "the next day", x -> x.shape(0, 51), x -> x.shape(0, 9999));
    Run two = places(1).shape(0, 4, 1, 1).shape(0, 50, 1, 1).corners(2, 2);
    two.refuses(what + "than the latest one", STATE, x -> x.shape(0, 50), x -> x.shape(0, 49), x -> x.shape(0, 5),
        x -> x.shape(0, 4));
    two.takes(what + "than the latest one", x -> x.shape(0, 51));
    Run last = places(1).shape(0, 9999, 1, 1).corners(2, 2);
    last.refuses(what + "none behind the last day", STATE, x -> x.shape(0, 9999), x -> x.shape(0, 9998));
  }

  private static void cornersOfShapes() {
    String what = "a POINT of one corner, or an AREA of 3 to 8: ";
    int[] ring = {0, 0, 4, 0, 8, 1, 9, 4, 9, 8, 5, 9, 1, 9, 0, 5};
    for (int count = 0; count <= 8; count++) {
      Run run = places(2).shape(1, 0, 7, 7).corners(java.util.Arrays.copyOf(ring, 2 * count));
      String label = what + count + " corners";
      if (count == 0 || count == 2) {
        run.refuses(label, ARGUMENT, x -> x.shape(0, 3));
      } else {
        Run made = run.then(x -> x.shape(0, 3));
        made.due(label + ": an area or not", count == 1 ? -1 : 1, x -> x.holds(0, 0, 0, 3));
        made.due(label + ": all are used up", 1, x -> x.corner(0, 0));
        made.finds(label + ": the nearest is the first one", "[0, 1]", 3, 2);
      }
    }
    Run full = places(1).corners(ring);
    full.refuses(what + "no ninth one", STATE, x -> x.corner(0, 2));
    full.then(x -> x.shape(0, 0)).due(what + "the eighth is one of it", 1, x -> x.holds(0, 0, 5, 0));
  }

  private static void notStraightOn() {
    String what = "not straight on (its doubled surface is above 0): ";
    int[][] straight = {{1, 1, 1, 1, 1, 1}, {0, 0, 5, 5, 9, 9}, {3, 0, 3, 9, 3, 4}, {0, 7, 9, 7, 4, 7},
        {0, 0, 4095, 4095, 4094, 4094}, {0, 0, 9, 3, 9, 3}, {1, 2, 2, 4, 3, 6, 4, 8, 5, 10, 6, 12, 7, 14, 8, 16},
        {0, 0, 4, 4, 4, 0, 0, 4}, {0, 0, 9, 0, 9, 9, 9, 0}, {0, 4095, 4095, 0, 4095, 4095, 0, 0}};
    for (int[] ring : straight) {
      places(1).corners(ring).refuses(what + "0", ARGUMENT, x -> x.shape(0, 5));
    }
    int[][] rings = {{0, 0, 1, 0, 0, 1}, {0, 0, 0, 1, 1, 0}, {4095, 4095, 4094, 4095, 4095, 4094},
        {0, 0, 4095, 4094, 4094, 4093}, {0, 0, 4094, 4093, 4095, 4094}, {0, 0, 5, 5, 9, 9, 9, 8},
        {0, 0, 4, 4, 4, 0, 0, 5}, {1, 1, 1, 1, 2, 1, 1, 2}};
    for (int[] ring : rings) {
      Run run = places(1).corners(ring);
      run.takes(what + "1 or a little more, either way round", x -> x.shape(0, 5));
      run.then(x -> x.shape(0, 5)).due(what + "an area", 1, x -> x.holds(0, ring[0], ring[1], 5));
    }
  }

  private static void holds(String what, int[] ring, int want, int... positions) {
    Run run = places(1).shape(0, 0, ring);
    for (int i = 0; i < positions.length; i += 2) {
      int px = positions[i];
      int py = positions[i + 1];
      run.due(what + px + ", " + py, want, x -> x.holds(0, px, py, 0));
    }
  }

  private static void onASide() {
    String what = "A point LIES IN an area if it is on one of its sides: ";
    int[] square = {10, 10, 20, 10, 20, 20, 10, 20};
    holds(what, square, 1, 10, 10, 20, 10, 20, 20, 10, 20, 15, 10, 20, 15, 15, 20, 10, 15, 11, 10, 19, 20);
    holds(what + "in line, but behind its end: ", square, 0, 9, 10, 21, 10, 9, 20, 21, 20, 10, 9, 10, 21, 20, 9,
        20, 21);
    holds(what + "beside: ", square, 0, 15, 9, 15, 21, 9, 15, 21, 15);
    int[] slanting = {0, 0, 9, 3, 3, 9};
    holds(what, slanting, 1, 3, 1, 6, 2, 5, 7, 6, 6, 1, 3, 2, 6);
    holds(what + "beside: ", slanting, 0, 3, 0, 6, 1, 6, 7, 7, 6, 1, 4, 2, 7);
    int[] spike = {0, 0, 5, 0, 5, 5, 9, 5, 5, 5, 0, 5};
    holds(what + "a side gone to and fro: ", spike, 1, 7, 5, 9, 5);
    holds(what + "beside a side gone to and fro: ", spike, 0, 7, 4, 7, 6, 10, 5);
  }

  private static void oddNumberOfSides() {
    String what = "or if a ray towards greater x crosses an odd number of its sides: ";
    int[] diamond = {15, 10, 20, 15, 15, 20, 10, 15};
    holds(what + "one, through a corner: ", diamond, 1, 15, 15, 11, 15, 19, 15);
    holds(what + "two, through corners: ", diamond, 0, 5, 15, 9, 15);
    holds(what + "a corner touched from below or above: ", diamond, 0, 5, 10, 14, 10, 5, 20, 14, 20);
    holds(what + "none: ", diamond, 0, 21, 15, 25, 15, 16, 10, 16, 20, 5, 9, 5, 21);
    int[] comb = {0, 0, 20, 0, 20, 10, 15, 2, 10, 10, 5, 2, 0, 10};
    holds(what + "one or three: ", comb, 1, 1, 5, 10, 5, 19, 8, 5, 1, 1, 2, 9, 8);
    holds(what + "two or four: ", comb, 0, 5, 5, 15, 5, 5, 3, 5, 10, 18, 8, 21, 0);
    int[] steps = {0, 0, 20, 0, 20, 10, 10, 10, 10, 5, 0, 5};
    holds(what + "beside level sides: ", steps, 1, 5, 5, 15, 5, 15, 10, 12, 7);
    holds(what + "beside level sides: ", steps, 0, 5, 6, 9, 10, 5, 10, 9, 7);
    int[] twice = {2, 2, 20, 2, 20, 20, 8, 20, 8, 8, 14, 8, 14, 14, 2, 14};
    holds(what + "two, gone round twice: ", twice, 0, 10, 10, 9, 9, 13, 13);
    holds(what + "one, gone round once: ", twice, 1, 4, 4, 16, 16, 10, 4);
    String place = "its place there is right of the point: ";
    int[] thin = {0, 0, 4095, 4094, 4095, 4095};
    // One of 4095 beside the slanting sides, which no float can tell.
    holds(place, thin, 1, 4095, 4094, 4095, 4095, 1, 1, 4094, 4094, 2048, 2048);
    holds(place, thin, 0, 4094, 4093, 1, 0, 2, 1, 4094, 4095, 4095, 4093);
  }

  private static void thereOrNot() {
    String what = "THERE on a day if it has a shape then and was not removed on this or an earlier day: ";
    Run run = places(1).shape(0, 5, 1, 1).then(x -> x.remove(0, 50));
    int[] days = {0, 4, 5, 6, 49, 50, 51, 9999};
    for (int day : days) {
      String want = day >= 5 && day < 50 ? "[0]" : "[]";
      run.finds(what + "found on day " + day, want, day, 0);
      run.due(what + "near on day " + day, want, x -> Run.near(x, 1, 1, 1, -1, day));
      run.then(x -> x.watch(0, day)).due(what + "news of day " + day, want, x -> Run.news(x, 0));
    }
    places(1).finds(what + "without a shape", "[]", 9999, 0);
    Run before = places(1).shape(0, 5, 1, 1).then(x -> x.remove(0, 5));
    before.finds(what + "removed on the day of its shape", "[]", 5, 0);
    before.shape(0, 9, 2, 2).finds(what + "a later shape brings it not back", "[]", 9, 0);
    Run early = places(1).then(x -> x.remove(0, 4)).shape(0, 3, 1, 1);
    early.finds(what + "removed before it had a shape", "[0]", 3, 0);
    early.finds(what + "and gone from that day on", "[]", 4, 0);
  }

  private static void whereAPlaceStands() {
    String what = "Where a place stands is its point, or the nearest corner of its area: ";
    Run area = places(1).shape(0, 0, 10, 10, 30, 10, 30, 30, 10, 30);
    area.condition(7, 20, 20, 14).finds(what + "not the inside", "[]", 0, 0);
    area.condition(7, 20, 20, 15).finds(what + "a corner, seen from the inside", "[0]", 0, 0);
    area.condition(7, 20, 10, 9).finds(what + "not a side", "[]", 0, 0);
    area.condition(7, 20, 10, 10).finds(what + "a corner, seen from a side", "[0]", 0, 0);
    area.condition(7, 10, 33, 3).finds(what + "the last corner", "[0]", 0, 0);
    area.condition(7, 10, 33, 2).finds(what + "no nearer", "[]", 0, 0);
    area.route(0, 20, 40, 20).condition(8, 9, 0, 0).finds(what + "a route through it", "[]", 0, 0);
    area.route(0, 20, 40, 20).condition(8, 10, 0, 0).finds(what + "a route between corners", "[0]", 0, 0);
    Run point = new Run().points(10, 10);
    point.condition(7, 10, 10, 0).finds(what + "a point itself", "[0]", 0, 0);
    point.condition(7, 11, 10, 0).finds(what + "beside a point", "[]", 0, 0);
    point.condition(7, 11, 10, 1).finds(what + "one from a point", "[0]", 0, 0);
  }

  private static void lettersOfAName() {
    String what = "NAMES are words of 1 to 10 letters: ";
    String word = "abcdefgabc";
    places(1).refuses(what + "none", ARGUMENT, x -> x.name(0, 0, 9));
    for (int count = 1; count <= 10; count++) {
      String typed = word.substring(0, count);
      Run named = places(1).name(0, typed, 0, 9);
      named.typed(typed).due(what + count, 0, x -> x.errors(0, 0));
      named.typed("z").due(what + count + " letters and another one", count, x -> x.errors(0, 0));
    }
    Run eleven = places(1).name(0, word + "d", 0, 9).typed(word);
    eleven.due(what + "an eleventh is not typed", 0, x -> x.errors(0, 0));
  }

  private static void namesAtMostTwo() {
    String what = "at most 2 NAMES for a place: ";
    places(2).typed("a").takes(what + "the first", x -> x.name(0, 0, 9));
    Run one = places(2).name(0, "b", 0, 9);
    one.typed("a").takes(what + "the second", x -> x.name(0, 0, 9), x -> x.name(0, 10, 10));
    Run two = one.name(0, "c", 5, 5);
    two.typed("a").refuses(what + "a third", STATE, x -> x.name(0, 0, 9), x -> x.name(0, 9999, 9999));
    two.typed("a").takes(what + "another place has its own", x -> x.name(1, 0, 9));
    Run same = places(1).name(0, "ab", 0, 9).typed("ab");
    same.takes(what + "the same once more", x -> x.name(0, 0, 9));
    two.typed("c").due(what + "both are kept", "1 0", x -> x.errors(0, 0) + " " + x.errors(0, 1));
    two.typed("c").refuses(what + "and no third", NO_ELEMENT, x -> x.errors(0, 2));
    Run spans = new Run().points(1, 1).name(0, "ab", 0, 5).name(0, "cd", 5, 9);
    spans.condition(0, 0, "ab").finds(what + "each with a span: the first alone", "[0]", 4, 0);
    spans.condition(0, 0, "cd").finds(what + "the second not yet", "[]", 4, 0);
    spans.condition(0, 0, "ab").condition(0, 0, "cd").finds(what + "both on a day", "[0]", 5, 0);
    spans.condition(0, 0, "ab").finds(what + "the first no more", "[]", 6, 0);
  }
}
