/** A run after which there is something of all that a refused call could change. */
final class Book {
  private Book() {
  }

  /**
   * Places 0 (two shapes, two names, one parent), 1 (three shapes, one name), 2 (nothing), 3 (removed,
   * four parents) and 4 (an area, and the parent of others); a route, conditions, two watches, hits,
   * a typed word and three corners.
   */
  static Run book() {
    return places().route(0, 0, 10, 0, 10, 10)
        .condition(7, 0, 0, 10000).condition(8, 100, 0, 0)
        .then(x -> x.watch(0, 5)).then(x -> x.told(0))
        .shape(0, 50, 20, 20)
        .condition(1, 0, "a")
        .then(x -> x.watch(3, 9999))
        .then(x -> x.near(3, 3, 3, -1, 5))
        .typed("ab")
        .corners(1, 1, 8, 1, 8, 8);
  }

  private static Run places() {
    return new Run().places(0, 7, 3, 3, 1)
        .shape(0, 5, 0, 0, 10, 0, 10, 10, 0, 10)
        .shape(1, 0, 3, 4).shape(1, 10, 9, 9).shape(1, 9998, 5, 1)
        .shape(3, 0, 10, 0)
        .shape(4, 9, 2, 2, 7, 2, 7, 9)
        .name(0, "ab", 0, 9999).name(0, "philipp", 5, 10)
        .name(1, "cde", 5, 5)
        .name(4, "ab", 9, 50)
        .parent(0, 1, 5, 10).parent(1, 2, 0, 9999)
        .parent(3, 4, 0, 0).parent(3, 4, 4, 5).parent(3, 4, 9, 10).parent(3, 1, 50, 51)
        .then(x -> x.remove(3, 50));
  }
}
