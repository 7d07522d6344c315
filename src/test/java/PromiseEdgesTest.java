import java.util.NoSuchElementException;

/**
 * The promises by number: each sentence that names an edge or a refusal, with what is thrown, that
 * nothing has changed then, and which of several refusals holds.
 */
public final class PromiseEdgesTest {
  private static final Class<IllegalArgumentException> ARGUMENT = IllegalArgumentException.class;
  private static final Class<IllegalStateException> STATE = IllegalStateException.class;
  private static final Class<UnsupportedOperationException> UNSUPPORTED = UnsupportedOperationException.class;
  private static final Class<IndexOutOfBoundsException> INDEX = IndexOutOfBoundsException.class;
  private static final Class<NoSuchElementException> NO_ELEMENT = NoSuchElementException.class;

  private PromiseEdgesTest() {
  }

  public static void main(String[] args) {
    newObject();
    place();
    corner();
    shape();
    shapeRefusals();
    route();
    letter();
    name();
    parent();
    parentRefusals();
    remove();
    condition();
    conditionWords();
    conditionRefusals();
    clear();
    find();
    near();
    hit();
    chain();
    holds();
    sound();
    errors();
    watch();
    news();
    newsOfPlacesAsTheyAreNow();
    told();
    lastCall();
    Check.end();
  }

  private static Run places(int count) {
    return new Run().places(new int[count]);
  }

  private static void newObject() {
    Run none = new Run();
    none.due("1: no places: the first is 0", 0, x -> x.place(0));
    none.refuses("1: no places", ARGUMENT, x -> x.chain(0, 0, 0), x -> x.holds(0, 0, 0, 0), x -> x.remove(0, 0),
        x -> x.condition(5, 0, 0, 0), x -> x.condition(6, 0, 0, 0));
    none.due("1: no places: none near", "[]", x -> Run.near(x, 0, 0, 30, -1, 0));
    for (int order = 0; order < 4; order++) {
      none.finds("1: no places: none found", "[]", 9999, order);
    }
    none.due("1: nothing is collected: corners", 1, x -> x.corner(0, 0));
    none.due("1: nothing is collected: conditions", 1, x -> x.condition(4, 0, 0, 0));
    new Run().points(1, 1).finds("1: nothing is collected: all meet that", "[0]", 0, 0);
    new Run().points(1, 1).condition(8, 10000, 0, 0).finds("1: no route", "[]", 0, 0);
    none.due("1: nothing is typed", 0, PlaceFinder::sound);
    none.refuses("1: nothing is typed", ARGUMENT, x -> x.condition(0, 0, 0, 0));
    none.refuses("1: nothing is found", INDEX, x -> x.hit(0));
    none.refuses("1: nothing is watched", ARGUMENT, x -> x.news(0), x -> x.news(3), x -> x.told(0),
        x -> x.told(3));
  }

  private static void place() {
    Run full = Book.book().places(new int[24]);
    full.due("2: its number", 29, x -> x.place(7));
    Run thirty = full.places(7);
    thirty.refuses("2: there are thirty", STATE, x -> x.place(0), x -> x.place(7));
    thirty.refuses("2: no such kind, before there are thirty", ARGUMENT, x -> x.place(8), x -> x.place(-1));
    thirty.then(x -> x.remove(5, 0)).refuses("2: removed ones count", STATE, x -> x.place(0));
    Book.book().refuses("2: no such kind", ARGUMENT, x -> x.place(8), x -> x.place(-1));
    Book.book().due("2: a refused one has no number", 5, x -> {
      Check.outcome(() -> x.place(8));
      return x.place(0);
    });
  }

  private static void corner() {
    Run run = new Run();
    for (int count = 1; count <= 8; count++) {
      run.due("3: how many there are", count, x -> x.corner(4095, 4095));
      run = run.corners(count, count);
    }
    run.refuses("3: there are eight", STATE, x -> x.corner(0, 0), x -> x.corner(4095, 4095));
    run.refuses("3: no such coordinates, before there are eight", ARGUMENT, x -> x.corner(-1, 0),
        x -> x.corner(0, 4096));
    Run full = Book.book().corners(3, 9, 2, 8, 1, 7, 1, 6, 1, 5);
    full.refuses("3: there are eight", STATE, x -> x.corner(0, 0), x -> x.corner(4095, 4095));
    full.refuses("3: no such coordinates, before there are eight", ARGUMENT, x -> x.corner(-1, 0));
    run.then(PlaceFinder::route).due("3: one after a route", 1, x -> x.corner(0, 0));
    Run book = Book.book();
    book.due("3: one more", 4, x -> x.corner(0, 0));
    book.refuses("3: no such coordinates", ARGUMENT, x -> x.corner(-1, 0), x -> x.corner(0, -1),
        x -> x.corner(4096, 0), x -> x.corner(0, 4096), x -> x.corner(-1, 4096));
  }

  private static void shape() {
    Run run = places(2).corners(3, 3);
    run.then(x -> x.shape(1, 5)).due("4: none are collected then", 1, x -> x.corner(0, 0));
    run.then(x -> x.shape(1, 5)).refuses("4: none are collected then", ARGUMENT, x -> x.shape(0, 5));
    run.then(x -> x.shape(1, 5)).finds("4: of that place from that day on", "[1]", 5, 0);
    run.then(x -> x.shape(1, 5)).finds("4: not before", "[]", 4, 0);
    Run removed = run.then(x -> x.remove(1, 0));
    removed.takes("4: removed or not", x -> x.shape(1, 5));
    Run copied = run.then(x -> x.shape(1, 5)).corners(9, 9).condition(7, 3, 3, 0);
    copied.finds("4: new corners are not of an old shape", "[1]", 5, 0);
  }

  private static void shapeRefusals() {
    Run book = Book.book();
    book.refuses("4: no such place or day", ARGUMENT, x -> x.shape(5, 50), x -> x.shape(-1, 50),
        x -> x.shape(2, 10000), x -> x.shape(2, -1), x -> x.shape(5, 10000));
    book.refuses("4: it has three shapes", STATE, x -> x.shape(1, 9999));
    book.refuses("4: one of this day or a later one", STATE, x -> x.shape(0, 50), x -> x.shape(0, 49));
    book.takes("4: one of the next day", x -> x.shape(0, 51));
    book.refuses("4: the day, before three shapes", ARGUMENT, x -> x.shape(1, 10000), x -> x.shape(1, -1));
    Run four = book.then(PlaceFinder::route);
    four.refuses("4: no corners", ARGUMENT, x -> x.shape(2, 5));
    four.refuses("4: no corners, before three shapes", ARGUMENT, x -> x.shape(1, 9999));
    four.refuses("4: no corners, before one of this day", ARGUMENT, x -> x.shape(0, 50));
    Run two = four.corners(1, 1, 2, 3);
    two.refuses("4: two corners", ARGUMENT, x -> x.shape(2, 5), x -> x.shape(1, 9999), x -> x.shape(0, 50));
    Run straight = two.corners(3, 5);
    straight.refuses("4: straight on", ARGUMENT, x -> x.shape(2, 5), x -> x.shape(1, 9999), x -> x.shape(0, 50));
    straight.corners(3, 4).takes("4: not straight on with one more", x -> x.shape(2, 5));
  }

  private static void route() {
    Run run = new Run().points(1, 1, 5, 5).condition(8, 0, 0, 0);
    run.route(1, 1, 5, 5).finds("5: 2 corners", "[0, 1]", 0, 0);
    run.route(1, 1).finds("5: 1: no route", "[]", 0, 0);
    run.route().finds("5: 0: no route", "[]", 0, 0);
    run.route(1, 1, 5, 5).route(5, 5).finds("5: 1: no route any more", "[]", 0, 0);
    run.route(1, 1, 5, 5).route().finds("5: 0: no route any more", "[]", 0, 0);
    run.route(1, 1, 1, 2).route(5, 5, 5, 6).finds("5: another one", "[1]", 0, 0);
    for (int count = 0; count <= 8; count++) {
      Run routed = run.corners(new int[2 * count]).then(PlaceFinder::route);
      routed.due("5: none are collected then, of " + count, 1, x -> x.corner(0, 0));
    }
    run.route(1, 1, 1, 2).corners(5, 5, 5, 6).finds("5: new corners are not of an old route", "[0]", 0, 0);
  }

  private static void letter() {
    Run book = Book.book();
    int[] none = {'a' - 1, 'z' + 1, 'A', 'Z', '0', ' ', 0, -1, 'a' + 256, 'a' + 65536, 'a' - 65536,
        Integer.MIN_VALUE,
        Integer.MAX_VALUE};
    for (int c : none) {
      book.due("6: false if it is none, " + c, false, x -> x.letter(c));
      book.leavesAll("6: no letter, " + c, x -> x.letter(c));
    }
    for (int c : new int[] {'a', 'b', 'm', 'y', 'z'}) {
      new Run().due("6: true, " + c, "true " + (c - 'a' + 1), x -> x.letter(c) + " " + x.sound());
    }
    Run nine = new Run().places(0).typed("abababcab");
    nine.due("6: a tenth", true, x -> x.letter('a'));
    Run ten = nine.typed("c");
    ten.due("6: false if ten are typed", false, x -> x.letter('a'));
    ten.due("6: false if ten are typed and it is none", false, x -> x.letter('A'));
    ten.leavesAll("6: ten are typed", x -> x.letter('d'));
    ten.then(x -> x.letter('d')).then(x -> x.name(0, 0, 0)).typed("abababcabc")
        .due("6: the ten are the word", 0, x -> x.errors(0, 0));
    Run aaa = new Run().places(0).typed("aaaaaaaaaa");
    aaa.due("6: ten as they were typed, not folded", false, x -> x.letter('b'));
    aaa.then(x -> x.name(0, 0, 0)).due("6: true after a name", true, x -> x.letter('b'));
  }

  private static void name() {
    Run book = Book.book();
    book.then(x -> x.name(2, 5, 9)).due("7: nothing is typed then", 0, PlaceFinder::sound);
    book.then(x -> x.name(2, 5, 9)).refuses("7: nothing is typed then", ARGUMENT, x -> x.name(4, 5, 9));
    book.refuses("7: no such place", ARGUMENT, x -> x.name(5, 5, 9), x -> x.name(-1, 5, 9));
    book.refuses("7: no such span", ARGUMENT, x -> x.name(2, -1, 9), x -> x.name(2, 5, 10000),
        x -> x.name(2, 6, 5));
    book.refuses("7: it has two names", STATE, x -> x.name(0, 0, 0), x -> x.name(0, 5, 9), x -> x.name(0, 50, 50));
    book.takes("7: it has one name", x -> x.name(1, 5, 5), x -> x.name(4, 0, 9999));
    book.refuses("7: no such span, before two names", ARGUMENT, x -> x.name(0, 6, 5), x -> x.name(0, 0, 10000));
    Run untyped = book.then(x -> x.name(2, 5, 9));
    untyped.refuses("7: nothing is typed, before two names", ARGUMENT, x -> x.name(0, 5, 9));
    untyped.refuses("7: nothing is typed", ARGUMENT, x -> x.name(1, 5, 9));
    Run copied = new Run().points(1, 1).name(0, "ab", 0, 9).condition(0, 0, "cd");
    copied.typed("ab").due("7: new letters are not of an old name", 0, x -> x.errors(0, 0));
    places(1).name(0, "ab", 5, 9).typed("ab").due("7: a name is one on any day", 0, x -> x.errors(0, 0));
  }

  private static void parent() {
    Run run = places(3);
    for (int count = 0; count < 4; count++) {
      int day = 2 * count;
      run.takes("8: after " + count + " spans", x -> x.parent(0, 1, day, day));
      run = run.parent(0, 1 + count % 2, day, day);
    }
    run.refuses("8: the place has four spans", STATE, x -> x.parent(0, 1, 1, 1), x -> x.parent(0, 2, 9, 9999));
    run.takes("8: another one has its own", x -> x.parent(1, 2, 0, 9999));
    run.due("8: the four are kept", "1 2 1 2",
        x -> x.chain(0, 0, 0) + " " + x.chain(0, 2, 0) + " " + x.chain(0, 4, 0) + " " + x.chain(0, 6, 0));
    run.due("8: and none between", "-1 -1", x -> x.chain(0, 1, 0) + " " + x.chain(0, 7, 0));
    places(2).takes("8: an area or not, there or not", x -> x.parent(0, 1, 0, 9999));
    Run many = places(6).parent(0, 5, 0, 9).parent(1, 5, 0, 9).parent(2, 5, 0, 9).parent(3, 5, 0, 9);
    many.takes("8: a parent of many", x -> x.parent(4, 5, 0, 9));
  }

  private static void parentRefusals() {
    Run book = Book.book();
    book.refuses("8: no such places", ARGUMENT, x -> x.parent(5, 0, 0, 0), x -> x.parent(-1, 0, 0, 0),
        x -> x.parent(2, 5, 0, 0), x -> x.parent(2, -1, 0, 0), x -> x.parent(5, 5, 0, 0));
    book.refuses("8: no such span", ARGUMENT, x -> x.parent(2, 4, 6, 5), x -> x.parent(2, 4, -1, 5),
        x -> x.parent(2, 4, 6, 10000));
    book.refuses("8: it has one for a day of it", UNSUPPORTED, x -> x.parent(0, 4, 10, 11),
        x -> x.parent(0, 4, 4, 5),
        x -> x.parent(1, 4, 50, 50), x -> x.parent(0, 1, 5, 10));
    book.refuses("8: it would come to be above itself", STATE, x -> x.parent(2, 0, 5, 5),
        x -> x.parent(2, 0, 10, 11),
        x -> x.parent(2, 1, 9999, 9999), x -> x.parent(2, 2, 0, 0), x -> x.parent(4, 3, 0, 0),
        x -> x.parent(0, 0, 4, 4));
    book.takes("8: on other days", x -> x.parent(2, 0, 4, 4), x -> x.parent(2, 0, 11, 11),
        x -> x.parent(4, 3, 1, 3));
    book.refuses("8: it has four spans", STATE, x -> x.parent(3, 4, 1, 3), x -> x.parent(3, 4, 52, 52));
    book.refuses("8: no such span, before a day in common", ARGUMENT, x -> x.parent(0, 4, 10, 5),
        x -> x.parent(0, 4, 5, -1));
    book.refuses("8: no such place, before a day in common", ARGUMENT, x -> x.parent(0, 5, 5, 10));
    book.refuses("8: no such span, before above itself", ARGUMENT, x -> x.parent(2, 2, 6, 5),
        x -> x.parent(2, 0, 10, 5));
    book.refuses("8: no such span, before four spans", ARGUMENT, x -> x.parent(3, 4, 3, 1),
        x -> x.parent(3, 4, 52, 10000));
    book.refuses("8: a day in common, before above itself", UNSUPPORTED, x -> x.parent(0, 0, 10, 11),
        x -> x.parent(1, 0, 5, 5), x -> x.parent(1, 1, 0, 0));
    book.refuses("8: a day in common, before four spans", UNSUPPORTED, x -> x.parent(3, 4, 0, 3),
        x -> x.parent(3, 4, 51, 52));
    book.refuses("8: above itself and four spans", STATE, x -> x.parent(3, 3, 1, 1));
  }

  private static void remove() {
    Run book = Book.book();
    book.refuses("9: no such place or day", ARGUMENT, x -> x.remove(5, 0), x -> x.remove(-1, 0),
        x -> x.remove(0, -1),
        x -> x.remove(0, 10000));
    book.refuses("9: it is removed on that day already", STATE, x -> x.remove(3, 50));
    book.refuses("9: a later one is refused", STATE, x -> x.remove(3, 51), x -> x.remove(3, 9999));
    book.refuses("9: no such day, before that", ARGUMENT, x -> x.remove(3, 10000), x -> x.remove(3, -1));
    Run earlier = book.then(x -> x.remove(3, 49)).then(PlaceFinder::clear);
    earlier.due("9: an earlier one", "true false", x -> Run.found(x, 48, 0).contains("3") + " "
        + Run.found(x, 49, 0).contains("3"));
    earlier.refuses("9: then that one is refused, and those behind", STATE, x -> x.remove(3, 49),
        x -> x.remove(3, 50));
    earlier.takes("9: and one before is not", x -> x.remove(3, 48), x -> x.remove(3, 0));
    Run first = places(1).then(x -> x.remove(0, 0));
    first.refuses("9: from the first day on", STATE, x -> x.remove(0, 0), x -> x.remove(0, 1),
        x -> x.remove(0, 9999));
    Run last = new Run().points(1, 1).then(x -> x.remove(0, 9999));
    last.finds("9: from the last day on", "[]", 9999, 0);
    last.finds("9: the day before", "[0]", 9998, 0);
    last.takes("9: and then earlier", x -> x.remove(0, 9998));
    new Run().points(1, 1, 2, 2).then(x -> x.remove(0, 5)).finds("9: others stay", "[1]", 5, 0);
  }

  private static void condition() {
    Run book = Book.book();
    book.due("10: how many there are", 4, x -> x.condition(4, 0, 0, 0));
    book.range("10: no such kind", 0, 8, ARGUMENT, (x, kind) -> x.condition(kind, 0, 0, 0));
    book.range("10: 2: a 0 .. 2", 0, 2, ARGUMENT, (x, a) -> x.condition(2, a, 0, 0));
    book.range("10: 4: a kind", 0, 7, ARGUMENT, (x, a) -> x.condition(4, a, 0, 0));
    book.range("10: 5: a place", 0, 4, ARGUMENT, (x, a) -> x.condition(5, a, 0, 0));
    book.range("10: 6: a place", 0, 4, ARGUMENT, (x, a) -> x.condition(6, a, 0, 0));
    book.range("10: 7: coordinate a", 0, 4095, ARGUMENT, (x, a) -> x.condition(7, a, 0, 0));
    book.range("10: 7: coordinate b", 0, 4095, ARGUMENT, (x, b) -> x.condition(7, 0, b, 0));
    book.range("10: 7: c 0 .. 10000", 0, 10000, ARGUMENT, (x, c) -> x.condition(7, 0, 0, c));
    book.range("10: 8: a 0 .. 10000", 0, 10000, ARGUMENT, (x, a) -> x.condition(8, a, 0, 0));
    for (int odd : new int[] {-1, 10001, Integer.MIN_VALUE, Integer.MAX_VALUE}) {
      book.takes("10: what is not named here has no meaning, " + odd, x -> x.condition(0, odd, odd, odd),
          x -> x.condition(1, odd, odd, odd), x -> x.condition(2, 2, odd, odd), x -> x.condition(3, odd, odd, odd),
          x -> x.condition(4, 7, odd, odd), x -> x.condition(5, 4, odd, odd), x -> x.condition(6, 4, odd, odd),
          x -> x.condition(8, 10000, odd, odd));
    }
    book.then(x -> x.remove(0, 0)).takes("10: a place is one when it is removed", x -> x.condition(5, 0, 0, 0),
        x -> x.condition(6, 0, 0, 0));
  }

  private static void conditionWords() {
    Run book = Book.book();
    for (int kind = 0; kind <= 8; kind++) {
      int asked = kind;
      int sound = kind <= 3 ? 0 : 33;
      Run taken = book.condition(kind, 0, 0, 0);
      taken.due("10: the typed word is taken for 0 .. 3, " + kind, sound, PlaceFinder::sound);
      if (kind <= 3) {
        taken.refuses("10: nothing is typed, for " + kind, ARGUMENT, x -> x.condition(asked, 0, 0, 0));
      } else {
        new Run().places(0).takes("10: nothing typed is needed for " + kind, x -> x.condition(asked, 0, 0, 0));
      }
    }
    Run copied = new Run().points(1, 1).name(0, "ab", 0, 9).condition(0, 0, "ab").typed("cd");
    copied.finds("10: new letters are not of an old condition", "[0]", 0, 0);
  }

  private static void conditionRefusals() {
    Run book = Book.book().condition(4, 0, 0, 0);
    Run five = book.condition(4, 0, 0, 0);
    book.due("10: a fifth", 5, x -> x.condition(0, 0, 0, 0));
    five.refuses("10: there are five", STATE, x -> x.condition(0, 0, 0, 0), x -> x.condition(4, 0, 0, 0),
        x -> x.condition(7, 0, 0, 0));
    five.refuses("10: no such kind, before there are five", ARGUMENT, x -> x.condition(9, 0, 0, 0),
        x -> x.condition(-1, 0, 0, 0));
    five.refuses("10: not as said, before there are five", ARGUMENT, x -> x.condition(2, 3, 0, 0),
        x -> x.condition(4, 8, 0, 0), x -> x.condition(5, 5, 0, 0), x -> x.condition(6, -1, 0, 0),
        x -> x.condition(7, 4096, 0, 0), x -> x.condition(7, 0, -1, 0), x -> x.condition(7, 0, 0, 10001),
        x -> x.condition(8, 10001, 0, 0));
    Run untyped = five.then(x -> x.name(2, 0, 0));
    untyped.refuses("10: nothing is typed, before there are five", ARGUMENT, x -> x.condition(0, 0, 0, 0),
        x -> x.condition(1, 0, 0, 0), x -> x.condition(2, 2, 0, 0), x -> x.condition(3, 0, 0, 0));
    untyped.refuses("10: there are five, and nothing typed is needed", STATE, x -> x.condition(4, 0, 0, 0),
        x -> x.condition(8, 0, 0, 0));
  }

  private static void clear() {
    Run run = new Run().places(0, 1).shape(0, 0, 1, 1).shape(1, 0, 2, 2);
    for (int count = 0; count <= 5; count++) {
      Run cleared = run;
      for (int i = 0; i < count; i++) {
        cleared = cleared.condition(4, i % 2, 0, 0);
      }
      cleared = cleared.then(PlaceFinder::clear);
      cleared.due("11: none of " + count, 1, x -> x.condition(4, 0, 0, 0));
      cleared.finds("11: all meet none", "[0, 1]", 0, 0);
    }
    Book.book().then(PlaceFinder::clear).leavesAll("11: none are collected already", PlaceFinder::clear);
    Run book = Book.book().then(PlaceFinder::clear);
    book.due("11: the word stays typed", 33, PlaceFinder::sound);
    book.due("11: the corners stay", 4, x -> x.corner(0, 0));
    book.due("11: what was found stays", Run.hits(Book.book().play()), Run::hits);
    book.due("11: the watches keep theirs", Run.news(Book.book().play(), 3), x -> Run.news(x, 3));
    book.condition(8, 0, 0, 0).due("11: the route stays", true, x -> Run.found(x, 0, 0).contains("3"));
  }

  private static void find() {
    Run book = Book.book();
    book.range("12: no such order", 0, 3, ARGUMENT, (x, order) -> x.find(5, order));
    book.range("12: no such day", 0, 9999, ARGUMENT, (x, day) -> x.find(day, 3));
    book.refuses("12: neither", ARGUMENT, x -> x.find(-1, 4), x -> x.find(10000, -1));
    new Run().finds("12: no places", "[]", 0, 0);
    new Run().points(1, 1).condition(4, 1, 0, 0).finds("12: none that meets", "[]", 0, 0);
    new Run().points(1, 1).finds("12: one", "[0]", 0, 0);
    for (int order = 0; order < 4; order++) {
      int by = order;
      new Run().points(new int[60]).due("12: thirty, order " + order, "30 0 29",
          x -> x.find(9999, by) + " " + x.hit(0) + " " + x.hit(29));
    }
    Run fewer = new Run().points(1, 1, 2, 2).then(x -> x.find(0, 0)).condition(7, 2, 2, 0);
    fewer.finds("12: fewer than before", "[1]", 0, 0);
  }

  private static void near() {
    Run book = Book.book();
    book.range("13: n 1 .. 30", 1, 30, ARGUMENT, (x, n) -> x.near(0, 0, n, -1, 5));
    book.range("13: a kind, -1: any", -1, 7, ARGUMENT, (x, kind) -> x.near(0, 0, 1, kind, 5));
    book.range("13: coordinate x", 0, 4095, ARGUMENT, (x, n) -> x.near(n, 0, 1, -1, 5));
    book.range("13: coordinate y", 0, 4095, ARGUMENT, (x, n) -> x.near(0, n, 1, -1, 5));
    book.range("13: a day", 0, 9999, ARGUMENT, (x, day) -> x.near(0, 0, 1, -1, day));
    Run run = new Run().points(3, 0, 1, 0, 0, 1, 2, 0);
    String[] nearest = {"[1]", "[1, 2]", "[1, 2, 3]", "[1, 2, 3, 0]", "[1, 2, 3, 0]"};
    for (int n = 1; n <= 5; n++) {
      int asked = n;
      run.due("13: the " + n + " nearest; fewer if there are fewer", nearest[n - 1],
          x -> Run.near(x, 0, 0, asked, -1, 0));
    }
    new Run().due("13: none", "[]", x -> Run.near(x, 0, 0, 30, -1, 0));
    Run thirty = new Run().points(new int[60]);
    thirty.due("13: 30 of 30", 30, x -> x.near(0, 0, 30, -1, 0));
    thirty.due("13: 29 of 30, of equal ones by number", "29 28", x -> x.near(9, 9, 29, -1, 0) + " " + x.hit(28));
    thirty.then(x -> x.near(9, 9, 29, -1, 0)).refuses("13: no more than n are found", INDEX, x -> x.hit(29));
    run.condition(7, 3, 0, 0).due("13: conditions have no meaning here", "[1, 2, 3, 0]",
        x -> Run.near(x, 0, 0, 30, -1, 0));
    book.then(x -> x.near(0, 0, 1, 6, 5)).refuses("13: they are found then, be it none", INDEX, x -> x.hit(0));
  }

  private static void hit() {
    Run none = new Run().points(1, 1, 2, 2);
    none.refuses("14: nothing was found", INDEX, x -> x.hit(0), x -> x.hit(-1), x -> x.hit(1));
    for (int count = 1; count <= 3; count++) {
      Run run = new Run().points(new int[2 * count]).then(x -> x.find(0, 0));
      run.range("14: there is none, of " + count, 0, count - 1, INDEX, (x, i) -> x.hit(i));
    }
    Run thirty = new Run().points(new int[60]).then(x -> x.find(0, 0));
    thirty.range("14: there is none, of thirty", 0, 29, INDEX, (x, i) -> x.hit(i));
    thirty.due("14: the last of thirty", 29, x -> x.hit(29));
    Run fewer = thirty.then(x -> x.near(0, 0, 2, -1, 0));
    fewer.range("14: the latest ones, fewer than before", 0, 1, INDEX, (x, i) -> x.hit(i));
    Run empty = thirty.condition(4, 7, 0, 0).then(x -> x.find(0, 0));
    empty.refuses("14: the latest ones, none", INDEX, x -> x.hit(0), x -> x.hit(29));
    Run book = Book.book();
    String hits = Run.hits(book.play());
    book.then(x -> Check.outcome(() -> x.find(-1, 0))).due("14: a refused find finds nothing", hits, Run::hits);
    book.then(x -> Check.outcome(() -> x.near(0, 0, 0, -1, 0))).due("14: a refused near neither", hits, Run::hits);
    book.then(x -> Check.outcome(() -> x.news(1))).due("14: refused news neither", hits, Run::hits);
    book.then(x -> x.told(3)).due("14: told finds nothing", hits, Run::hits);
    book.then(x -> x.remove(1, 0)).due("14: as they were found", hits, Run::hits);
    book.leavesAll("14: a hit changes nothing", x -> x.hit(0));
  }

  private static void chain() {
    Run book = Book.book();
    book.refuses("15: no such place or day, or i is below 0", ARGUMENT, x -> x.chain(5, 0, 0),
        x -> x.chain(-1, 0, 0),
        x -> x.chain(0, -1, 0), x -> x.chain(0, 10000, 0), x -> x.chain(0, 0, -1),
        x -> x.chain(0, 0, Integer.MIN_VALUE));
    book.due("15: 0: the parent", 1, x -> x.chain(0, 5, 0));
    book.due("15: the last", 2, x -> x.chain(0, 5, 1));
    book.due("15: -1 if it ends before", -1, x -> x.chain(0, 5, 2));
    for (int i : new int[] {3, 28, 29, 30, 31, 1000000, Integer.MAX_VALUE}) {
      book.due("15: -1 if it ends before " + i, -1, x -> x.chain(0, 5, i));
    }
    book.due("15: without a parent", -1, x -> x.chain(2, 5, 0));
    book.due("15: on the first day", "-1 2", x -> x.chain(0, 0, 0) + " " + x.chain(1, 0, 0));
    book.due("15: on the last day", "-1 2", x -> x.chain(0, 9999, 0) + " " + x.chain(1, 9999, 0));
    book.then(x -> x.remove(1, 0)).due("15: removed or not", "1 2",
        x -> x.chain(0, 5, 0) + " " + x.chain(0, 5, 1));
    book.leavesAll("15: it changes nothing", x -> x.chain(0, 5, 0));
  }

  private static void holds() {
    Run book = Book.book();
    book.refuses("16: no such place, coordinates or day", ARGUMENT, x -> x.holds(5, 0, 0, 0),
        x -> x.holds(-1, 0, 0, 0),
        x -> x.holds(0, -1, 0, 5), x -> x.holds(0, 4096, 0, 5), x -> x.holds(0, 0, -1, 5),
        x -> x.holds(0, 0, 4096, 5),
        x -> x.holds(0, 0, 0, -1), x -> x.holds(0, 0, 0, 10000), x -> x.holds(1, 4096, 0, 5),
        x -> x.holds(2, 0, -1, 5));
    book.due("16: -1 if it has none yet", -1, x -> x.holds(0, 5, 5, 4));
    book.due("16: 1 from its day on", 1, x -> x.holds(0, 5, 5, 5));
    book.due("16: 1 until the next one", 1, x -> x.holds(0, 5, 5, 49));
    book.due("16: -1 if it is a point", -1, x -> x.holds(0, 20, 20, 50));
    book.due("16: -1 if it has no shape", -1, x -> x.holds(2, 0, 0, 9999));
    book.due("16: 0 beside", 0, x -> x.holds(0, 11, 5, 5));
    Run removed = book.then(x -> x.remove(0, 6));
    removed.due("16: whether it is removed or not", "1 1 1 0",
        x -> x.holds(0, 5, 5, 5) + " " + x.holds(0, 5, 5, 6) + " " + x.holds(0, 5, 5, 7) + " " + x.holds(0, 11,
        5, 7));
    book.leavesAll("16: it changes nothing", x -> x.holds(0, 5, 5, 5));
  }

  private static void sound() {
    new Run().due("17: 0 if nothing is typed", 0, PlaceFinder::sound);
    new Run().places(0).name(0, "ab", 0, 0).due("17: 0 if nothing is typed any more", 0, PlaceFinder::sound);
    new Run().typed("a").due("17: one letter", 1, PlaceFinder::sound);
    new Run().typed("abcdlmrbcd").due("17: ten letters", 33 * 1024 + 2 * 32 + 3, PlaceFinder::sound);
    Book.book().leavesAll("17: it stays typed", PlaceFinder::sound);
  }

  private static void errors() {
    Run book = Book.book();
    book.refuses("18: no such place", NO_ELEMENT, x -> x.errors(5, 0), x -> x.errors(-1, 0),
        x -> x.errors(Integer.MAX_VALUE, 0), x -> x.errors(Integer.MIN_VALUE, 1));
    book.range("18: a name of two", 0, 1, NO_ELEMENT, (x, name) -> x.errors(0, name));
    book.range("18: a name of one", 0, 0, NO_ELEMENT, (x, name) -> x.errors(1, name));
    book.range("18: a name of none", 0, -1, NO_ELEMENT, (x, name) -> x.errors(2, name));
    Run untyped = book.then(x -> x.name(2, 0, 0));
    untyped.refuses("18: nothing is typed", NO_ELEMENT, x -> x.errors(0, 0), x -> x.errors(0, 1),
        x -> x.errors(5, 0),
        x -> x.errors(0, 2));
    book.due("18: the first name and the second", "0 5", x -> x.errors(0, 0) + " " + x.errors(0, 1));
    book.leavesAll("18: it stays typed", x -> x.errors(0, 1));
  }

  private static void watch() {
    Run book = Book.book();
    book.range("19: watch w (0 .. 3)", 0, 3, ARGUMENT, (x, w) -> x.watch(w, 5));
    book.range("19: a day", 0, 9999, ARGUMENT, (x, day) -> x.watch(3, day));
    book.refuses("19: neither", ARGUMENT, x -> x.watch(-1, -1), x -> x.watch(4, 10000));
    Run run = new Run().places(0, 1, 0).shape(0, 0, 1, 1).shape(1, 0, 5, 5).shape(2, 6, 9, 9);
    Run none = run.then(x -> x.watch(1, 5));
    none.due("19: no conditions", "[0, 1]", x -> Run.news(x, 1));
    none.refuses("19: the others are not set", ARGUMENT, x -> x.news(0), x -> x.news(2), x -> x.told(3));
    none.condition(4, 1, 0, 0).due("19: those that are collected later are not kept", "[0, 1]",
        x -> Run.news(x, 1));
    Run five = run.condition(4, 1, 0, 0).condition(4, 1, 0, 0).condition(4, 1, 0, 0).condition(4, 1, 0, 0)
        .condition(7, 5, 5, 0).then(x -> x.watch(1, 5));
    five.due("19: five conditions", "[1]", x -> Run.news(x, 1));
    five.then(PlaceFinder::clear).due("19: it keeps them", "[1]", x -> Run.news(x, 1));
    five.finds("19: they stay collected", "[1]", 5, 0);
    Run routed = run.route(1, 1, 1, 2).condition(8, 0, 0, 0).then(x -> x.watch(1, 5));
    routed.route(5, 5, 5, 6).due("19: it keeps the route", "[0]", x -> Run.news(x, 1));
    routed.route().due("19: it keeps the route when there is none any more", "[0]", x -> Run.news(x, 1));
    Run unrouted = run.condition(8, 10000, 0, 0).then(x -> x.watch(1, 5)).route(1, 1, 1, 2);
    unrouted.due("19: it keeps that there was no route", "[]", x -> Run.news(x, 1));
    run.then(x -> x.watch(1, 6)).due("19: it keeps the day", "[0, 1, 2]", x -> Run.news(x, 1));
    Run again = none.then(x -> x.told(1)).then(x -> x.watch(1, 6));
    again.due("19: nothing was told by it yet, though it was set before", "[0, 1, 2]", x -> Run.news(x, 1));
    none.then(x -> x.told(1)).leavesAll("19: a refused one leaves what was told", x -> x.watch(1, 10000));
  }

  private static void news() {
    Run book = Book.book();
    book.refuses("20: no such watch", ARGUMENT, x -> x.news(-1), x -> x.news(4), x -> x.news(Integer.MIN_VALUE),
        x -> x.news(Integer.MAX_VALUE));
    book.refuses("20: it was not set", ARGUMENT, x -> x.news(1), x -> x.news(2));
    Run set = book.then(x -> x.watch(1, 5)).then(x -> x.watch(2, 5));
    set.range("20: all are set", 0, 3, ARGUMENT, (x, w) -> x.news(w));
    Run run = new Run().points(9, 0, 1, 0, 5, 0).condition(7, 0, 0, 100).then(x -> x.watch(0, 5));
    run.due("20: they are found then, by number", "[0, 1, 2]", x -> Run.news(x, 0));
    run.then(x -> x.news(0)).due("20: they are not told by that", "[0, 1, 2]", x -> Run.news(x, 0));
    Run told = run.then(x -> x.told(0));
    told.due("20: none that was not told", "[]", x -> Run.news(x, 0));
    told.then(x -> x.find(0, 0)).then(x -> x.news(0)).refuses("20: none are found then", INDEX, x -> x.hit(0));
    told.places(0).shape(3, 5, 7, 7).due("20: a new one of the watch's day", "[3]", x -> Run.news(x, 0));
    told.places(0).shape(3, 6, 7, 7).due("20: a new one of the next day", "[]", x -> Run.news(x, 0));
    told.places(0).shape(3, 4, 7, 7).due("20: a new one of the day before", "[3]", x -> Run.news(x, 0));
    told.then(x -> x.remove(1, 5)).due("20: one that was told and is gone", "[]", x -> Run.news(x, 0));
    run.then(x -> x.remove(1, 5)).due("20: one that was not told and is gone", "[0, 2]", x -> Run.news(x, 0));
    run.then(x -> x.remove(1, 6)).due("20: one that goes the next day", "[0, 1, 2]", x -> Run.news(x, 0));
    Run thirty = new Run().points(new int[60]).then(x -> x.watch(0, 0));
    thirty.due("20: thirty", "30 29", x -> x.news(0) + " " + x.hit(29));
  }

  private static void newsOfPlacesAsTheyAreNow() {
    String what = "20: a condition that names places or days means them as they are now: ";
    Run run = new Run().points(5, 5, 50, 50).places(0, 0);
    Run inside = run.condition(5, 2, 0, 0).then(x -> x.watch(0, 5));
    inside.due(what + "no area yet", "[]", x -> Run.news(x, 0));
    Run area = inside.shape(2, 5, 0, 0, 9, 0, 9, 9, 0, 9);
    area.due(what + "an area now", "[0, 2]", x -> Run.news(x, 0));
    inside.shape(2, 6, 0, 0, 9, 0, 9, 9, 0, 9).due(what + "an area the next day", "[]", x -> Run.news(x, 0));
    Run below = run.condition(6, 3, 0, 0).then(x -> x.watch(0, 5));
    below.due(what + "none below", "[]", x -> Run.news(x, 0));
    below.parent(1, 3, 5, 5).due(what + "one below now", "[1]", x -> Run.news(x, 0));
    below.parent(1, 3, 4, 4).due(what + "one below the day before", "[]", x -> Run.news(x, 0));
    below.parent(1, 3, 6, 9).due(what + "one below the next day", "[]", x -> Run.news(x, 0));
    Run named = run.condition(0, 0, "ab").then(x -> x.watch(0, 5));
    named.name(1, "ab", 5, 5).due(what + "a name now", "[1]", x -> Run.news(x, 0));
    named.name(1, "ab", 6, 9).due(what + "a name the next day", "[]", x -> Run.news(x, 0));
  }

  private static void told() {
    Run book = Book.book();
    book.refuses("21: no such watch", ARGUMENT, x -> x.told(-1), x -> x.told(4), x -> x.told(Integer.MIN_VALUE),
        x -> x.told(Integer.MAX_VALUE));
    book.refuses("21: it was not set", ARGUMENT, x -> x.told(1), x -> x.told(2));
    Run set = book.then(x -> x.watch(1, 5)).then(x -> x.watch(2, 5));
    set.range("21: all are set", 0, 3, ARGUMENT, (x, w) -> x.told(w));
    Run run = new Run().points(1, 1, 5, 5).places(0).condition(5, 2, 0, 0).then(x -> x.watch(0, 5));
    run.due("21: none", 0, x -> x.told(0));
    Run area = run.shape(2, 1, 0, 0, 9, 0, 9, 9, 0, 9);
    area.due("21: how many", 3, x -> x.told(0));
    area.then(x -> x.told(0)).due("21: all that meet, once more", 3, x -> x.told(0));
    area.then(x -> x.told(0)).due("21: all are told", "[]", x -> Run.news(x, 0));
    Run less = area.then(x -> x.told(0)).shape(2, 4, 4, 4, 9, 4, 9, 9);
    less.due("21: fewer", 2, x -> x.told(0));
    Run again = less.then(x -> x.told(0)).shape(2, 5, 0, 0, 9, 0, 9, 9, 0, 9);
    again.due("21: and no others: they are new again", "[0]", x -> Run.news(x, 0));
    Run kept = less.shape(2, 5, 0, 0, 9, 0, 9, 9, 0, 9);
    kept.due("21: not told anew they stay told", "[]", x -> Run.news(x, 0));
    Run two = area.then(x -> x.watch(3, 5)).then(x -> x.told(0));
    two.due("21: each watch has its own", "[0, 1, 2]", x -> Run.news(x, 3));
    Run thirty = new Run().points(new int[60]).then(x -> x.watch(0, 0));
    thirty.due("21: thirty", 30, x -> x.told(0));
    thirty.then(x -> x.told(0)).due("21: thirty are told", "[]", x -> Run.news(x, 0));
  }

  private static void lastCall() {
    Run run = new Run().points(1, 1);
    for (int calls = 3; calls < 510; calls++) {
      run = run.then(x -> x.find(0, 3));
    }
    run.due("at most 512 calls: the last two", "1 0", x -> x.find(0, 0) + " " + x.hit(0));
  }
}
