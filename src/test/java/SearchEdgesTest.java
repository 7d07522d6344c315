/** Parents, conditions, the route and the orders: each sentence of the document at its edges. */
public final class SearchEdgesTest {
  private static final Class<IllegalArgumentException> ARGUMENT = IllegalArgumentException.class;
  private static final Class<IllegalStateException> STATE = IllegalStateException.class;
  private static final Class<UnsupportedOperationException> UNSUPPORTED = UnsupportedOperationException.class;

  private SearchEdgesTest() {
  }

  public static void main(String[] args) {
    noDayInCommon();
    notItsOwnParent();
    notAboveItself();
    notAboveItselfOfThirty();
    chains();
    conditionsAtMostFive();
    thereAndAllHold();
    inAnArea();
    areaOnThisDay();
    inItsChain();
    distanceFromAPoint();
    cornersOfARoute();
    nearestPointOfTheRoute();
    byNumber();
    byName();
    byNameThatMeets();
    byNameAsInALexicon();
    byDistance();
    byRoute();
    byTheSmallestFraction();
    byTheNearestSideExactly();
    byRouteTheFirstOfSeveral();
    byRouteWithoutOne();
    Check.end();
  }

  private static Run places(int count) {
    return new Run().places(new int[count]);
  }

  private static void noDayInCommon() {
    String what = "spans of one place have no day in common: ";
    Run run = places(4).parent(0, 1, 5, 10);
    int[][] common = {{10, 11}, {10, 10}, {4, 5}, {5, 5}, {6, 9}, {5, 10}, {4, 11}, {0, 9999}, {0, 5}, {10, 9999}};
    for (int[] span : common) {
      run.refuses(what + span[0] + " .. " + span[1], UNSUPPORTED, x -> x.parent(0, 2, span[0], span[1]),
          x -> x.parent(0, 1, span[0], span[1]));
      run.takes(what + "those of others may, " + span[0] + " .. " + span[1],
          x -> x.parent(3, 2, span[0], span[1]), x -> x.parent(1, 2, span[0], span[1]));
    }
    int[][] apart = {{11, 11}, {4, 4}, {0, 4}, {11, 9999}, {0, 0}, {9999, 9999}};
    for (int[] span : apart) {
      Run more = run.parent(0, 2, span[0], span[1]);
      more.due(what + "beside, " + span[0], 2, x -> x.chain(0, span[0], 0));
      more.due(what + "beside, " + span[1], 2, x -> x.chain(0, span[1], 0));
      more.due(what + "the first one stays", "1 1", x -> x.chain(0, 5, 0) + " " + x.chain(0, 10, 0));
    }
    Run two = places(4).parent(0, 1, 11, 20).parent(0, 2, 5, 9);
    two.takes(what + "one day between two", x -> x.parent(0, 3, 10, 10));
    two.refuses(what + "with the later one", UNSUPPORTED, x -> x.parent(0, 3, 9, 10));
    two.refuses(what + "with the first one", UNSUPPORTED, x -> x.parent(0, 3, 10, 11));
  }

  private static void notItsOwnParent() {
    String what = "on no day may a place be its own parent: ";
    Run run = places(3);
    run.refuses(what + "of many days", STATE, x -> x.parent(0, 0, 0, 9999), x -> x.parent(2, 2, 0, 9999));
    run.refuses(what + "of one day", STATE, x -> x.parent(1, 1, 0, 0), x -> x.parent(1, 1, 9999, 9999));
    run.takes(what + "the next one may", x -> x.parent(1, 0, 0, 9999), x -> x.parent(1, 2, 0, 9999));
  }

  private static void notAboveItself() {
    String what = "on no day may a place be the parent of one above it: ";
    Run pair = places(3).parent(0, 1, 5, 10);
    int[][] common = {{5, 5}, {10, 10}, {4, 5}, {10, 11}, {6, 9}, {0, 9999}};
    int[][] apart = {{4, 4}, {11, 11}, {0, 4}, {11, 9999}};
    for (int[] span : common) {
      pair.refuses(what + "of two, " + span[0] + " .. " + span[1], STATE, x -> x.parent(1, 0, span[0], span[1]));
    }
    for (int[] span : apart) {
      Run turned = pair.parent(1, 0, span[0], span[1]);
      turned.due(what + "of two, on other days", "0 -1",
          x -> x.chain(1, span[0], 0) + " " + x.chain(1, span[0], 1));
    }
    Run three = places(4).parent(0, 1, 0, 10).parent(1, 2, 10, 20);
    three.refuses(what + "of three, on the day that they share", STATE, x -> x.parent(2, 0, 10, 10),
        x -> x.parent(2, 0, 9, 11), x -> x.parent(2, 0, 0, 10), x -> x.parent(2, 0, 10, 9999));
    three.takes(what + "of three, beside that day", x -> x.parent(2, 0, 9, 9), x -> x.parent(2, 0, 11, 11),
        x -> x.parent(2, 0, 0, 9), x -> x.parent(2, 0, 11, 9999));
    three.takes(what + "of three, another one", x -> x.parent(2, 3, 0, 9999), x -> x.parent(3, 0, 0, 9999));
    Run second = places(3).parent(0, 1, 0, 4).parent(0, 2, 5, 9);
    second.refuses(what + "by its second span", STATE, x -> x.parent(2, 0, 5, 5), x -> x.parent(2, 0, 9, 9));
    second.takes(what + "by its second span, beside it", x -> x.parent(2, 0, 4, 4), x -> x.parent(2, 0, 10, 10));
    Run removed = pair.shape(0, 0, 1, 1).then(x -> x.remove(0, 0)).then(x -> x.remove(1, 0));
    removed.refuses(what + "removed or not", STATE, x -> x.parent(1, 0, 5, 5));
  }

  private static void notAboveItselfOfThirty() {
    String what = "on no day may a place be the parent of one above it, of thirty: ";
    Run all = places(30);
    for (int id = 0; id < 29; id++) {
      all = all.parent(id, id + 1, id == 7 ? 50 : 0, id == 20 ? 50 : 9999);
    }
    all.refuses(what + "the day that all share", STATE, x -> x.parent(29, 0, 50, 50), x -> x.parent(29, 0, 0, 50),
        x -> x.parent(29, 0, 50, 9999), x -> x.parent(29, 0, 49, 51));
    all.takes(what + "beside that day", x -> x.parent(29, 0, 49, 49), x -> x.parent(29, 0, 51, 51),
        x -> x.parent(29, 0, 0, 49), x -> x.parent(29, 0, 51, 9999));
    all.refuses(what + "one above on more days", STATE, x -> x.parent(29, 21, 9999, 9999),
        x -> x.parent(29, 28, 0, 0), x -> x.parent(29, 29, 0, 0));
  }

  private static void chains() {
    String what = "Its CHAIN on a day: its parent, that one's, and so on: ";
    Run run = places(30);
    for (int id = 0; id < 29; id++) {
      run = run.parent(id, id + 1, 5, 9);
    }
    for (int i : new int[] {0, 1, 27, 28}) {
      run.due(what + "its " + i, i + 1, x -> x.chain(0, 5, i));
    }
    run.due(what + "its end", "-1 -1 -1", x -> x.chain(0, 5, 29) + " " + x.chain(0, 5, 30) + " " + x.chain(1, 5, 28));
    run.due(what + "from another place", "29 -1", x -> x.chain(28, 9, 0) + " " + x.chain(28, 9, 1));
    run.due(what + "on other days", "-1 -1", x -> x.chain(0, 4, 0) + " " + x.chain(0, 10, 0));
    run.due(what + "of the highest", -1, x -> x.chain(29, 5, 0));
    Run days = places(4).parent(0, 1, 0, 9).parent(1, 2, 0, 4).parent(1, 3, 5, 9);
    days.due(what + "one day", 2, x -> x.chain(0, 4, 1));
    days.due(what + "the next day", 3, x -> x.chain(0, 5, 1));
  }

  private static void conditionsAtMostFive() {
    String what = "CONDITIONS are collected, at most 5: ";
    Run run = new Run().points(1, 1).typed("ab");
    for (int count = 0; count < 5; count++) {
      run.due(what + "after " + count, count + 1, x -> x.condition(4, 0, 0, 0));
      run.due(what + "by name after " + count, count + 1, x -> x.condition(0, 0, 0, 0));
      run = run.condition(4, 0, 0, 0);
    }
    run.refuses(what + "a sixth", STATE, x -> x.condition(0, 0, 0, 0), x -> x.condition(1, 0, 0, 0),
        x -> x.condition(2, 0, 0, 0), x -> x.condition(3, 0, 0, 0), x -> x.condition(4, 0, 0, 0),
        x -> x.condition(5, 0, 0, 0), x -> x.condition(6, 0, 0, 0), x -> x.condition(7, 0, 0, 0),
        x -> x.condition(8, 0, 0, 0));
    run.then(PlaceFinder::clear).due(what + "then none", 1, x -> x.condition(4, 0, 0, 0));
    run.finds(what + "five that hold", "[0]", 0, 0);
  }

  private static void thereAndAllHold() {
    String what = "a place MEETS them if it is there and all hold: ";
    Run run = new Run().places(0, 0, 1, 0).shape(0, 0, 1, 1).shape(1, 5, 1, 1).shape(2, 0, 1, 1)
        .then(x -> x.remove(0, 50));
    run.finds(what + "no conditions", "[0, 2]", 4, 0);
    run.finds(what + "no conditions, a day on", "[0, 1, 2]", 5, 0);
    run.finds(what + "no conditions, one removed", "[1, 2]", 50, 0);
    Run kind = run.condition(4, 0, 0, 0);
    kind.finds(what + "one", "[0]", 4, 0);
    kind.finds(what + "one, a day on", "[0, 1]", 5, 0);
    kind.finds(what + "one, one removed", "[1]", 50, 0);
    for (int wrong = 0; wrong < 5; wrong++) {
      Run five = run;
      for (int i = 0; i < 5; i++) {
        five = i == wrong ? five.condition(4, 1, 0, 0) : five.condition(7, 1, 1, 0);
      }
      five.finds(what + "just the " + wrong + ". of five lets few through", "[2]", 5, 0);
    }
    run.condition(4, 0, 0, 0).condition(4, 1, 0, 0).finds(what + "two that exclude each other", "[]", 5, 0);
  }

  private static void inAnArea() {
    String what = "5: the point, or each corner of this place's area, lies in it: ";
    Run run = places(8).shape(0, 0, 10, 10, 20, 10, 20, 20, 15, 15, 10, 20)
        .shape(1, 0, 10, 10).shape(2, 0, 9, 10).shape(3, 0, 15, 15).shape(4, 0, 15, 16)
        .shape(5, 0, 10, 10, 20, 10, 20, 20).shape(6, 0, 10, 10, 20, 10, 20, 21)
        .shape(7, 0, 10, 19, 20, 19, 15, 12);
    Run asked = run.condition(5, 0, 0, 0);
    asked.finds(what + "on sides, beside them, and itself", "[0, 1, 3, 5, 7]", 0, 0);
    run.condition(5, 5, 0, 0).finds(what + "one of its corners does not", "[1, 3, 5]", 0, 0);
    run.condition(5, 5, 0, 0).condition(5, 0, 0, 0).finds(what + "in two areas", "[1, 3, 5]", 0, 0);
  }

  private static void areaOnThisDay() {
    String what = "5: the place a has an area on this day: ";
    Run run = places(3).shape(0, 5, 0, 0, 9, 0, 9, 9, 0, 9).shape(0, 50, 5, 5).shape(0, 51, 0, 0, 4, 0, 4, 4)
        .shape(1, 0, 5, 5);
    Run asked = run.condition(5, 0, 0, 0);
    asked.finds(what + "none before", "[]", 4, 0);
    asked.finds(what + "from its day on", "[0, 1]", 5, 0);
    asked.finds(what + "until the next", "[0, 1]", 49, 0);
    asked.finds(what + "a point is none, be it the same", "[]", 50, 0);
    asked.finds(what + "another one", "[0]", 51, 0);
    run.condition(5, 2, 0, 0).finds(what + "it has none ever", "[]", 5, 0);
    run.condition(5, 1, 0, 0).finds(what + "it is a point", "[]", 5, 0);
    Run removed = asked.then(x -> x.remove(0, 6));
    removed.finds(what + "the day before it is removed", "[0, 1]", 5, 0);
    removed.finds(what + "removed it has it still", "[1]", 6, 0);
  }

  private static void inItsChain() {
    String what = "6: the place a is in its chain on this day: ";
    Run run = new Run().points(1, 1, 2, 2, 3, 3, 4, 4).parent(0, 1, 5, 9).parent(1, 2, 5, 5).parent(3, 2, 9, 9);
    run.condition(6, 1, 0, 0).finds(what + "the parent, not itself", "[0]", 5, 0);
    run.condition(6, 2, 0, 0).finds(what + "the parent and one below", "[0, 1]", 5, 0);
    run.condition(6, 2, 0, 0).finds(what + "the day before", "[]", 4, 0);
    run.condition(6, 2, 0, 0).finds(what + "the day behind", "[]", 6, 0);
    run.condition(6, 2, 0, 0).finds(what + "another one", "[3]", 9, 0);
    run.condition(6, 0, 0, 0).finds(what + "none below it", "[]", 5, 0);
    Run long29 = new Run().points(new int[60]);
    for (int id = 0; id < 29; id++) {
      long29 = long29.parent(id, id + 1, 0, 0);
    }
    long29.condition(6, 29, 0, 0).due(what + "the highest of thirty", 29, x -> x.find(0, 0));
    long29.condition(6, 1, 0, 0).finds(what + "the lowest but one of thirty", "[0]", 0, 0);
  }

  private static void distanceFromAPoint() {
    String what = "7: it stands at most c from the point a, b: ";
    Run run = new Run().points(10, 10, 13, 14, 13, 15, 11, 10, 10, 9);
    run.condition(7, 10, 10, 0).finds(what + "0", "[0]", 0, 0);
    run.condition(7, 10, 10, 1).finds(what + "1", "[0, 3, 4]", 0, 0);
    run.condition(7, 10, 10, 4).finds(what + "4", "[0, 3, 4]", 0, 0);
    run.condition(7, 10, 10, 5).finds(what + "5", "[0, 1, 3, 4]", 0, 0);
    run.condition(7, 10, 10, 6).finds(what + "6", "[0, 1, 2, 3, 4]", 0, 0);
    Run far = new Run().points(0, 0, 4095, 4095);
    // The farthest square is 2 * 4095 * 4095, between those of 5791 and 5792.
    far.condition(7, 4095, 4095, 5791).finds(what + "5791", "[1]", 0, 0);
    far.condition(7, 4095, 4095, 5792).finds(what + "5792", "[0, 1]", 0, 0);
    far.condition(7, 0, 0, 10000).finds(what + "10000", "[0, 1]", 0, 0);
    Book.book().range(what + "c", 0, 10000, ARGUMENT, (x, c) -> x.condition(7, 5, 5, c));
    Book.book().range(what + "of the route", 0, 10000, ARGUMENT, (x, a) -> x.condition(8, a, 0, 0));
  }

  private static void cornersOfARoute() {
    String what = "8: the ROUTE, a line of 2 to 8 corners; none does if there is no route: ";
    int[] line = {0, 0, 10, 0, 10, 10, 20, 10, 20, 20, 30, 20, 30, 30, 40, 30};
    Run run = new Run().points(line);
    run.condition(8, 10000, 0, 0).finds(what + "never one", "[]", 0, 0);
    for (int count = 0; count <= 8; count++) {
      Run routed = run.route(1, 1, 2, 2).route(java.util.Arrays.copyOf(line, 2 * count));
      String want = count < 2 ? "[]" : "[0, 1, 2, 3, 4, 5, 6, 7]".substring(0, 3 * count - 1) + "]";
      routed.condition(8, 0, 0, 0).finds(what + count + " corners", want, 0, 0);
      routed.condition(8, 10000, 0, 0).due(what + count + " corners, far", count < 2 ? 0 : 8, x -> x.find(0, 0));
      routed.due(what + "none are collected then", 1, x -> x.corner(1, 1));
    }
    run.route(10, 10, 10, 10).condition(8, 0, 0, 0).finds(what + "twice the same", "[2]", 0, 0);
  }

  private static void nearestPointOfTheRoute() {
    String what = "8: from the point of it that is nearest: ";
    Run run = new Run().points(7, 20, 5, 14, 25, 3, 33, 14, 36, 20, 36, 21)
        .route(10, 20, 10, 10, 30, 10, 30, 20, 36, 28);
    run.condition(8, 2, 0, 0).finds(what + "2", "[]", 0, 0);
    run.condition(8, 3, 0, 0).finds(what + "3, beside the first and the third side", "[0, 3]", 0, 0);
    // 36, 20 is 4.8 from the last side, and 36, 21 is 4.2 from it.
    run.condition(8, 4, 0, 0).finds(what + "4", "[0, 3]", 0, 0);
    run.condition(8, 5, 0, 0).finds(what + "5", "[0, 1, 3, 4, 5]", 0, 0);
    run.condition(8, 6, 0, 0).finds(what + "6", "[0, 1, 3, 4, 5]", 0, 0);
    run.condition(8, 7, 0, 0).finds(what + "7, beside the second side", "[0, 1, 2, 3, 4, 5]", 0, 0);
    Run ends = new Run().points(5, 10, 25, 10, 10, 10, 20, 10, 7, 6, 24, 13).route(10, 10, 20, 10);
    ends.condition(8, 0, 0, 0).finds(what + "0 from its ends", "[2, 3]", 0, 0);
    ends.condition(8, 4, 0, 0).finds(what + "4 from its ends", "[2, 3]", 0, 0);
    ends.condition(8, 5, 0, 0).finds(what + "5 from its ends", "[0, 1, 2, 3, 4, 5]", 0, 0);
  }

  private static void byNumber() {
    String what = "0 by number: ";
    Run run = new Run().points(9, 9, 1, 1, 5, 5).name(0, "c", 0, 9).name(1, "b", 0, 9).name(2, "a", 0, 9);
    run.finds(what + "three", "[0, 1, 2]", 0, 0);
    run.then(x -> x.find(0, 1)).finds(what + "after another order", "[0, 1, 2]", 0, 0);
    new Run().points(new int[60]).due(what + "thirty", "30 0 29", x -> x.find(0, 0) + " " + x.hit(0) + " " + x.hit(29));
    new Run().finds(what + "none", "[]", 0, 0);
  }

  private static void byName() {
    String what = "1 by the least of its names of this day: ";
    Run run = new Run().points(1, 1, 1, 1, 1, 1, 1, 1)
        .name(0, "d", 0, 9999).name(0, "b", 5, 9).name(1, "c", 0, 9999).name(3, "a", 6, 6).name(3, "e", 0, 9999);
    run.finds(what + "before a span", "[1, 0, 3, 2]", 4, 1);
    run.finds(what + "on its first day", "[0, 1, 3, 2]", 5, 1);
    run.finds(what + "on a span of one day", "[3, 0, 1, 2]", 6, 1);
    run.finds(what + "on its last day", "[0, 1, 3, 2]", 9, 1);
    run.finds(what + "behind it", "[1, 0, 3, 2]", 10, 1);
    Run none = new Run().points(1, 1, 1, 1, 1, 1, 1, 1).name(1, "a", 0, 4).name(2, "zyzyzyzyzy", 0, 9);
    none.finds(what + "one without such comes last", "[1, 2, 0, 3]", 4, 1);
    none.finds(what + "two without such, by number", "[2, 0, 1, 3]", 5, 1);
    none.finds(what + "all without such, by number", "[0, 1, 2, 3]", 10, 1);
  }

  private static void byNameThatMeets() {
    String what = "1 by the names that meet the first name condition: ";
    Run run = new Run().points(1, 1, 1, 1, 1, 1)
        .name(0, "a", 0, 9).name(0, "bd", 0, 9).name(1, "bc", 0, 9).name(1, "z", 0, 9).name(2, "bb", 0, 4)
        .name(2, "be", 0, 9);
    run.finds(what + "of all if there is none", "[0, 2, 1]", 4, 1);
    run.condition(1, 0, "b").finds(what + "begins", "[2, 1, 0]", 4, 1);
    run.condition(1, 0, "b").finds(what + "begins, on another day", "[1, 0, 2]", 5, 1);
    run.condition(2, 1, "bx").finds(what + "errors", "[2, 1, 0]", 4, 1);
    run.condition(3, 0, "bd").finds(what + "sound", "[0]", 4, 1);
    Run sounds = new Run().points(1, 1, 1, 1).name(0, "a", 0, 9).name(0, "rat", 0, 9).name(1, "radi", 0, 9);
    sounds.finds(what + "of all without a sound", "[0, 1]", 0, 1);
    sounds.condition(3, 0, "rot").finds(what + "of those with the sound", "[1, 0]", 0, 1);
    run.condition(4, 0, 0, 0).condition(1, 0, "b").finds(what + "behind another condition", "[2, 1, 0]", 4, 1);
    run.condition(1, 0, "b").condition(2, 2, "a").finds(what + "not the second one", "[2, 1, 0]", 4, 1);
    run.condition(2, 2, "a").condition(1, 0, "b").finds(what + "the first one", "[0, 2, 1]", 4, 1);
    run.condition(4, 0, 0, 0).condition(7, 0, 0, 9).finds(what + "others are none", "[0, 2, 1]", 4, 1);
  }

  private static void byNameAsInALexicon() {
    String what = "1 folded, as words in a lexicon, then by number: ";
    Run run = named("b", "abc", "ab", "a", "abcdefgabc", "abcdefgabd", "abcdefgab", "az", "z", "ba");
    run.finds(what + "letters, then length", "[3, 2, 1, 6, 4, 5, 7, 0, 9, 8]", 0, 1);
    named("pha", "g", "e", "qu", "l", "j").finds(what + "folded", "[2, 0, 1, 5, 3, 4]", 0, 1);
    named("filip", "fil", "philipp", "phil", "fillip").finds(what + "equal ones", "[1, 3, 0, 2, 4]", 0, 1);
  }

  private static Run named(String... names) {
    Run run = new Run().points(new int[2 * names.length]);
    for (int id = 0; id < names.length; id++) {
      run = run.name(id, names[id], 0, 9);
    }
    return run;
  }

  private static void byDistance() {
    String what = "2 by its distance to the point of the first condition 7: ";
    Run run = new Run().points(10, 0, 0, 9, 5, 5, 4, 3, 3, 4).shape(2, 5, 11, 11, 20, 20, 11, 20);
    run.finds(what + "to 0, 0 if there is none", "[3, 4, 2, 1, 0]", 4, 2);
    run.finds(what + "the nearest corner", "[3, 4, 1, 0, 2]", 5, 2);
    run.condition(7, 10, 1, 100).finds(what + "one", "[0, 3, 2, 4, 1]", 4, 2);
    run.condition(4, 0, 0, 0).condition(7, 10, 1, 100).finds(what + "behind others", "[0, 3, 2, 4, 1]", 4, 2);
    run.condition(7, 10, 1, 100).condition(7, 0, 9, 100).finds(what + "not the second", "[0, 3, 2, 4, 1]", 4, 2);
    run.condition(7, 0, 9, 100).condition(7, 10, 1, 100).finds(what + "the first", "[1, 4, 2, 3, 0]", 4, 2);
    run.route(0, 9, 10, 0).condition(8, 100, 0, 0).finds(what + "8 is none", "[3, 4, 2, 1, 0]", 4, 2);
    Run equal = new Run().points(10, 15, 15, 10, 5, 10, 13, 14, 10, 11).condition(7, 10, 10, 100);
    equal.finds(what + "then by number", "[4, 0, 1, 2, 3]", 0, 2);
  }

  private static void byRoute() {
    String what = "3 by how far along the route its nearest point is: by side, then by the fraction of the side: ";
    Run run = new Run().points(40, 12, 30, 5, 12, 30, 0, 1, 20, 1, 8, 25, 10, 35, 0, 0)
        .route(0, 0, 40, 0, 40, 10, 10, 20);
    // The last side goes back: 12, 30 and 8, 25 and 10, 35 are nearest to its end.
    run.finds(what + "three sides", "[3, 7, 4, 1, 0, 2, 5, 6]", 0, 3);
    Run back = new Run().points(30, 0, 10, 0, 20, 0).route(40, 0, 0, 0);
    back.finds(what + "as the route goes", "[0, 2, 1]", 0, 3);
    Run unequal = new Run().points(1, 1, 30, 30).route(0, 0, 2, 0, 2, 60, 4000, 60);
    unequal.finds(what + "a side before a fraction", "[0, 1]", 0, 3);
    Run sides = new Run().points(20, 1, 1, 39, 20, 39, 39, 20).route(0, 0, 40, 0, 40, 40, 0, 40, 0, 20);
    sides.finds(what + "sides of a ring", "[0, 3, 2, 1]", 0, 3);
    Run eight = new Run().points(61, 61, 51, 51, 41, 41, 31, 31, 21, 21, 11, 11, 1, 1)
        .route(0, 0, 10, 10, 20, 20, 30, 30, 40, 40, 50, 50, 60, 60, 70, 70);
    eight.finds(what + "seven sides", "[6, 5, 4, 3, 2, 1, 0]", 0, 3);
    Run none = new Run().points(9, 9, 5, 5).route(5, 5, 5, 5, 9, 9);
    none.finds(what + "a side of no length", "[1, 0]", 0, 3);
  }

  private static void byTheSmallestFraction() {
    String what = "3 by the fraction of the side, at its edges: ";
    // Of 5 parts of the side: 6, 23 is at 5, as is its end, 8, 15 at 1, 10, 10 at 0, 11, 12 at 4.
    Run steps = new Run().points(6, 23, 8, 15, 10, 10, 12, 11, 11, 12).route(10, 10, 12, 11);
    steps.finds(what + "0, 1, 4 and 5 of 5", "[2, 1, 4, 0, 3]", 0, 3);
    steps.route(12, 11, 10, 10).finds(what + "the other way", "[0, 3, 4, 1, 2]", 0, 3);
    Run shortest = new Run().points(1, 0, 0, 0, 1, 1, 0, 1).route(0, 0, 1, 0);
    shortest.finds(what + "0 and 1 of 1", "[1, 3, 0, 2]", 0, 3);
    Run longest = new Run().points(4095, 4095, 4094, 4095, 1, 0, 0, 0).route(0, 0, 4095, 4095);
    longest.finds(what + "the longest side", "[3, 2, 1, 0]", 0, 3);
  }

  private static void byTheNearestSideExactly() {
    String what = "3 its nearest point, of sides that are almost equally near: ";
    // In both the third side is the nearest to place 0, and place 1 stands where that side begins. In the
    // first just a fraction of the square tells; in the second products of fractions would not fit in longs.
    Run narrow = new Run().points(46, 25, 54, 21).route(58, 8, 37, 35, 54, 21, 19, 34);
    narrow.finds(what + "a later side by a fraction", "[1, 0]", 0, 3);
    Run back = new Run().points(46, 25, 54, 21).route(19, 34, 54, 21, 37, 35, 58, 8);
    back.finds(what + "an earlier side by a fraction", "[0, 1]", 0, 3);
    // 20, 20 is the root of 4.5 from the first side and 2 from the last corner.
    Run corner = new Run().points(20, 20, 33, 30).route(10, 7, 33, 30, 20, 22);
    corner.finds(what + "a corner by a fraction", "[1, 0]", 0, 3);
    Run wide = new Run().points(2316, 2569, 2866, 3714).route(3091, 2979, 154, 184, 2866, 3714, 1957, 595);
    wide.finds(what + "far away", "[1, 0]", 0, 3);
  }

  private static void byRouteTheFirstOfSeveral() {
    String what = "3 its nearest point (the first one, of several): ";
    Run two = new Run().points(30, 0, 20, 20).route(0, 0, 40, 0, 40, 40);
    // 20, 20 is 20 from the middle of either side.
    two.finds(what + "of two sides", "[1, 0]", 0, 3);
    Run nearer = new Run().points(30, 0, 21, 20).route(0, 0, 40, 0, 40, 40);
    nearer.finds(what + "one nearer to the second", "[0, 1]", 0, 3);
    Run crossing = new Run().points(20, 12, 20, 10).route(20, 0, 20, 20, 0, 10, 40, 10);
    crossing.finds(what + "where it crosses itself", "[1, 0]", 0, 3);
    Run again = new Run().points(20, 0, 40, 0).route(0, 0, 40, 0, 0, 0);
    again.finds(what + "where it comes again", "[0, 1]", 0, 3);
    Run area = new Run().places(0, 0, 0).shape(0, 0, 30, 5, 10, 5, 20, 9).shape(1, 0, 11, 0).shape(2, 0, 9, 0)
        .route(0, 0, 40, 0);
    area.finds(what + "of two corners", "[2, 0, 1]", 0, 3);
    Run corner = new Run().points(45, 45, 40, 0, 45, 0).route(0, 0, 40, 0, 40, 40);
    corner.finds(what + "at a corner, then by number", "[1, 2, 0]", 0, 3);
  }

  private static void byRouteWithoutOne() {
    String what = "3 all are equal if the route has fewer than 2 corners: ";
    Run run = new Run().points(30, 0, 20, 0, 10, 0);
    run.finds(what + "never one", "[0, 1, 2]", 0, 3);
    run.route(0, 0, 40, 0).route().finds(what + "0", "[0, 1, 2]", 0, 3);
    run.route(0, 0, 40, 0).route(0, 0).finds(what + "1", "[0, 1, 2]", 0, 3);
    run.route(0, 0, 40, 0).finds(what + "2", "[2, 1, 0]", 0, 3);
  }
}
