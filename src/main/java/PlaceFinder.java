import java.util.ArrayList;
import java.util.Arrays;
import java.util.NoSuchElementException;

/**
 * A book of places with their names, shapes and the areas that they belong to, each for some days.
 * The promises that it keeps are numbered in the document.
 */
public final class PlaceFinder {
  private static final int MOST_PLACES = 30;
  private static final int MOST_CORNERS = 8;
  private static final int MOST_SHAPES = 3;
  private static final int MOST_LETTERS = 10;
  private static final int MOST_NAMES = 2;
  private static final int MOST_LINKS = 4;
  private static final int MOST_CONDITIONS = 5;
  private static final int WATCHES = 4;

  private static final int LAST_KIND = 7;
  private static final int ANY_KIND = -1;
  private static final int LAST_DAY = 9999;
  private static final int LAST_COORDINATE = 4095;
  private static final int LAST_DISTANCE = 10000;
  private static final int MOST_ERRORS_ASKED = 2;

  private static final int NAME_SAME = 0;
  private static final int NAME_BEGINS = 1;
  private static final int NAME_LIKE = 2;
  private static final int NAME_SOUNDS = 3;
  private static final int OF_KIND = 4;
  private static final int INSIDE = 5;
  private static final int BELOW = 6;
  private static final int AROUND = 7;
  private static final int ALONG = 8;

  private static final int BY_NAME = 1;
  private static final int BY_DISTANCE = 2;
  private static final int BY_ROUTE = 3;
  private static final int LAST_ORDER = 3;

  private static final char NO_LETTER = 0;
  /** Above the rank of every word, so that places without a name come last. */
  private static final long NO_NAME = 1L << 60;
  /** Above the square of every distance between two points. */
  private static final int NO_SQUARE = 1 << 30;
  /** The classes of the letters a to z. */
  private static final String SOUND_CLASSES = "01230120022455012623010202";
  private static final int MOST_SIGNS = 4;
  private static final int BITS_OF_A_SIGN = 5;

  private final ArrayList<Place> places = new ArrayList<>();
  private final int[] cornerXs = new int[MOST_CORNERS];
  private final int[] cornerYs = new int[MOST_CORNERS];
  private int cornerCount = 0;
  /** Without corners if there is no route. */
  private Corners currentRoute = new Corners(new int[0], new int[0], 0);
  private final char[] typed = new char[MOST_LETTERS];
  private int typedCount = 0;
  private final ArrayList<Condition> conditions = new ArrayList<>();
  private final Watch[] watches = new Watch[WATCHES];
  private final Hits hits = new Hits();
  private final ErrorCounter errorCounter = new ErrorCounter();
  private final RouteSearch routeSearch = new RouteSearch();
  /** Every name begins with the empty word. */
  private final Condition anyName = new Condition(NAME_BEGINS, 0, 0, 0, new Word(new char[0], 0));

  public PlaceFinder() {
  }

  public int place(int kind) throws IllegalArgumentException, IllegalStateException {
    if (!isKind(kind)) {
      throw new IllegalArgumentException("no such kind");
    }
    if (places.size() >= MOST_PLACES) {
      throw new IllegalStateException("there are thirty places");
    }
    places.add(new Place(places.size(), kind));
    return places.size() - 1;
  }

  public int corner(int x, int y) throws IllegalArgumentException, IllegalStateException {
    if (!arePosition(x, y)) {
      throw new IllegalArgumentException("no such coordinates");
    }
    if (cornerCount >= MOST_CORNERS) {
      throw new IllegalStateException("there are eight corners");
    }
    cornerXs[cornerCount] = x;
    cornerYs[cornerCount] = y;
    cornerCount++;
    return cornerCount;
  }

  public void shape(int id, int day) throws IllegalArgumentException, IllegalStateException {
    Place place = placeOf(id);
    if (place == null || !isDay(day)) {
      throw new IllegalArgumentException("no such place or day");
    }
    Corners corners = new Corners(cornerXs, cornerYs, cornerCount);
    if (!corners.isPoint() && !corners.isArea()) {
      throw new IllegalArgumentException("neither a point nor an area");
    }
    if (!place.takesShapeFrom(day)) {
      throw new IllegalStateException("three shapes, or one of this day or a later one");
    }
    place.addShape(corners, day);
    cornerCount = 0;
  }

  public void route() {
    currentRoute = new Corners(cornerXs, cornerYs, cornerCount < 2 ? 0 : cornerCount);
    cornerCount = 0;
  }

  public boolean letter(int c) {
    if (c < 'a' || c > 'z' || typedCount >= MOST_LETTERS) {
      return false;
    }
    typed[typedCount] = (char) c;
    typedCount++;
    return true;
  }

  public void name(int id, int from, int to)
      throws IllegalArgumentException, IllegalStateException {
    Place place = placeOf(id);
    if (place == null || !areSpan(from, to) || typedCount == 0) {
      throw new IllegalArgumentException("no such place or span, or nothing is typed");
    }
    if (place.names.size() >= MOST_NAMES) {
      throw new IllegalStateException("it has two names");
    }
    place.names.add(new Name(new Word(typed, typedCount), from, to));
    typedCount = 0;
  }

  public void parent(int id, int area, int from, int to)
      throws IllegalArgumentException, UnsupportedOperationException, IllegalStateException {
    Place child = placeOf(id);
    Place above = placeOf(area);
    if (child == null || above == null || !areSpan(from, to)) {
      throw new IllegalArgumentException("no such places or span");
    }
    if (child.isLinkedWithin(from, to)) {
      throw new UnsupportedOperationException("it has a parent for a day of the span");
    }
    if (comesTo(above, id, from, to, 0) || child.links.size() >= MOST_LINKS) {
      throw new IllegalStateException("it would be above itself, or it has four spans");
    }
    child.links.add(new Link(above, from, to));
  }

  public void remove(int id, int day) throws IllegalArgumentException, IllegalStateException {
    Place place = placeOf(id);
    if (place == null || !isDay(day)) {
      throw new IllegalArgumentException("no such place or day");
    }
    if (place.isRemovedOn(day)) {
      throw new IllegalStateException("it is removed on that day already");
    }
    place.removedFrom = day;
  }

  public int condition(int kind, int a, int b, int c)
      throws IllegalArgumentException, IllegalStateException {
    if (!areCondition(kind, a, b, c)) {
      throw new IllegalArgumentException("no such condition");
    }
    boolean takesWord = kind <= NAME_SOUNDS;
    if (takesWord && typedCount == 0) {
      throw new IllegalArgumentException("nothing is typed");
    }
    if (conditions.size() >= MOST_CONDITIONS) {
      throw new IllegalStateException("there are five conditions");
    }
    conditions.add(new Condition(kind, a, b, c, new Word(typed, takesWord ? typedCount : 0)));
    if (takesWord) {
      typedCount = 0;
    }
    return conditions.size();
  }

  public void clear() {
    conditions.clear();
  }

  public int find(int day, int order) throws IllegalArgumentException {
    if (!isDay(day) || order < 0 || order > LAST_ORDER) {
      throw new IllegalArgumentException("no such day or order");
    }
    Condition named = firstNameCondition();
    Condition around = firstAround();
    hits.empty();
    for (int i = 0; i < places.size(); i++) {
      Place place = places.get(i);
      if (meets(place, conditions, currentRoute, day)) {
        hits.add(i, orderKey(place, order, named, around, day));
      }
    }
    return hits.count;
  }

  public int near(int x, int y, int n, int kind, int day) throws IllegalArgumentException {
    boolean isKindAsked = kind == ANY_KIND || isKind(kind);
    if (!arePosition(x, y) || n < 1 || n > MOST_PLACES || !isKindAsked || !isDay(day)) {
      throw new IllegalArgumentException("no such coordinates, n, kind or day");
    }
    hits.empty();
    for (int i = 0; i < places.size(); i++) {
      Place place = places.get(i);
      if (place.isThere(day) && (kind == ANY_KIND || place.kind == kind)) {
        hits.add(i, place.squareTo(x, y, day));
      }
    }
    hits.keepFirst(n);
    return hits.count;
  }

  public int hit(int i) throws IndexOutOfBoundsException {
    if (i < 0 || i >= hits.count) {
      throw new IndexOutOfBoundsException("no such hit");
    }
    return hits.numbers[i];
  }

  public int chain(int id, int day, int i) throws IllegalArgumentException {
    Place place = placeOf(id);
    if (place == null || !isDay(day) || i < 0) {
      throw new IllegalArgumentException("no such place or day, or i is below 0");
    }
    if (i >= MOST_PLACES) {
      return -1;
    }
    for (int step = 0; step <= i && place != null; step++) {
      place = place.aboveOn(day);
    }
    return place == null ? -1 : place.number;
  }

  public int holds(int id, int x, int y, int day) throws IllegalArgumentException {
    Place place = placeOf(id);
    if (place == null || !arePosition(x, y) || !isDay(day)) {
      throw new IllegalArgumentException("no such place, coordinates or day");
    }
    Corners area = place.shapeOn(day);
    if (area == null || area.isPoint()) {
      return -1;
    }
    return area.hasInside(x, y) ? 1 : 0;
  }

  public int sound() {
    return new Word(typed, typedCount).soundCode();
  }

  public int errors(int id, int name) throws NoSuchElementException {
    Place place = placeOf(id);
    if (place == null || name < 0 || name >= place.names.size() || typedCount == 0) {
      throw new NoSuchElementException("no such place or name, or nothing is typed");
    }
    return errorCounter.count(new Word(typed, typedCount), place.names.get(name).word);
  }

  public void watch(int w, int day) throws IllegalArgumentException {
    if (w < 0 || w >= WATCHES || !isDay(day)) {
      throw new IllegalArgumentException("no such watch or day");
    }
    Watch watch = new Watch(currentRoute, day);
    for (int i = 0; i < conditions.size(); i++) {
      watch.conditions.add(conditions.get(i));
    }
    watches[w] = watch;
  }

  public int news(int w) throws IllegalArgumentException {
    Watch watch = watchOf(w);
    if (watch == null) {
      throw new IllegalArgumentException("no such watch, or it was not set");
    }
    hits.empty();
    for (int i = 0; i < places.size(); i++) {
      if (!watch.hasTold(i) && meets(places.get(i), watch.conditions, watch.route, watch.day)) {
        hits.add(i, 0);
      }
    }
    return hits.count;
  }

  public int told(int w) throws IllegalArgumentException {
    Watch watch = watchOf(w);
    if (watch == null) {
      throw new IllegalArgumentException("no such watch, or it was not set");
    }
    int met = 0;
    for (int i = 0; i < places.size(); i++) {
      if (meets(places.get(i), watch.conditions, watch.route, watch.day)) {
        met |= 1 << i;
      }
    }
    watch.toldPlaces = met;
    return Integer.bitCount(met);
  }

  private static boolean isKind(int kind) {
    return kind >= 0 && kind <= LAST_KIND;
  }

  private static boolean isDay(int day) {
    return day >= 0 && day <= LAST_DAY;
  }

  private static boolean areSpan(int from, int to) {
    return isDay(from) && isDay(to) && from <= to;
  }

  private static boolean arePosition(int x, int y) {
    return x >= 0 && x <= LAST_COORDINATE && y >= 0 && y <= LAST_COORDINATE;
  }

  private static boolean isDistance(int distance) {
    return distance >= 0 && distance <= LAST_DISTANCE;
  }

  private boolean areCondition(int kind, int a, int b, int c) {
    switch (kind) {
      case NAME_SAME:
      case NAME_BEGINS:
      case NAME_SOUNDS:
        return true;
      case NAME_LIKE:
        return a >= 0 && a <= MOST_ERRORS_ASKED;
      case OF_KIND:
        return isKind(a);
      case INSIDE:
      case BELOW:
        return placeOf(a) != null;
      case AROUND:
        return arePosition(a, b) && isDistance(c);
      case ALONG:
        return isDistance(a);
      default:
        return false;
    }
  }

  private Place placeOf(int id) {
    return id >= 0 && id < places.size() ? places.get(id) : null;
  }

  private Watch watchOf(int w) {
    return w >= 0 && w < WATCHES ? watches[w] : null;
  }

  /** Whether a place is, or has above it on a day of the span, the place of a number. */
  private static boolean comesTo(Place place, int number, int from, int to, int depth) {
    // No chain is longer than there are places: a deeper one would be a circle, which is refused.
    if (place.number == number || depth >= MOST_PLACES) {
      return true;
    }
    for (int i = 0; i < place.links.size(); i++) {
      Link link = place.links.get(i);
      int first = Math.max(from, link.from);
      int last = Math.min(to, link.to);
      if (first <= last && comesTo(link.above, number, first, last, depth + 1)) {
        return true;
      }
    }
    return false;
  }

  private boolean meets(Place place, ArrayList<Condition> asked, Corners route, int day) {
    Corners shape = place.shapeOn(day);
    if (shape == null || place.isRemovedOn(day)) {
      return false;
    }
    for (int i = 0; i < asked.size(); i++) {
      if (!fits(place, shape, asked.get(i), route, day)) {
        return false;
      }
    }
    return true;
  }

  private boolean fits(Place place, Corners shape, Condition asked, Corners route, int day) {
    switch (asked.kind) {
      case OF_KIND:
        return place.kind == asked.a;
      case INSIDE:
        return liesInPlace(shape, asked.a, day);
      case BELOW:
        return isBelow(place, asked.a, day);
      case AROUND:
        return shape.squareTo(asked.a, asked.b) <= asked.c * asked.c;
      case ALONG:
        routeSearch.start(route, shape);
        return routeSearch.isWithin(asked.a);
      default:
        return leastName(place, asked, day) != NO_NAME;
    }
  }

  private boolean liesInPlace(Corners shape, int id, int day) {
    Place outer = placeOf(id);
    if (outer == null) {
      return false;
    }
    Corners area = outer.shapeOn(day);
    return area != null && area.isArea() && area.hasAllInside(shape);
  }

  private static boolean isBelow(Place place, int id, int day) {
    Place above = place.aboveOn(day);
    for (int step = 0; step < MOST_PLACES && above != null; step++) {
      if (above.number == id) {
        return true;
      }
      above = above.aboveOn(day);
    }
    return false;
  }

  /** The rank of the least name of the day that fits a name condition, or NO_NAME. */
  private long leastName(Place place, Condition named, int day) {
    long least = NO_NAME;
    for (int i = 0; i < place.names.size(); i++) {
      Name name = place.names.get(i);
      if (name.isOf(day) && wordFits(name.word, named)) {
        least = Math.min(least, name.word.rank());
      }
    }
    return least;
  }

  private boolean wordFits(Word word, Condition named) {
    switch (named.kind) {
      case NAME_SAME:
        return word.rank() == named.word.rank();
      case NAME_BEGINS:
        return word.beginsWith(named.word);
      case NAME_LIKE:
        return errorCounter.count(word, named.word) <= named.a;
      case NAME_SOUNDS:
        return word.soundCode() == named.word.soundCode();
      default:
        return false;
    }
  }

  private Condition firstNameCondition() {
    for (int i = 0; i < conditions.size(); i++) {
      if (conditions.get(i).kind <= NAME_SOUNDS) {
        return conditions.get(i);
      }
    }
    return anyName;
  }

  /** The first condition with a point; null if there is none. */
  private Condition firstAround() {
    for (int i = 0; i < conditions.size(); i++) {
      if (conditions.get(i).kind == AROUND) {
        return conditions.get(i);
      }
    }
    return null;
  }

  /** Of two places the one with the lesser key comes first. */
  private long orderKey(Place place, int order, Condition named, Condition around, int day) {
    switch (order) {
      case BY_NAME:
        return leastName(place, named, day);
      case BY_DISTANCE:
        return around == null
            ? place.squareTo(0, 0, day)
            : place.squareTo(around.a, around.b, day);
      case BY_ROUTE:
        return routeKey(place.shapeOn(day));
      default:
        return 0;
    }
  }

  private long routeKey(Corners shape) {
    if (shape == null) {
      return 0;
    }
    routeSearch.start(currentRoute, shape);
    return routeSearch.positionKey();
  }

  /** A row of corners that never changes: a point, the ring of an area, or a route. */
  private static final class Corners {
    final int size;
    final int[] xs;
    final int[] ys;

    Corners(int[] xs, int[] ys, int size) {
      this.size = size;
      this.xs = Arrays.copyOf(xs, size);
      this.ys = Arrays.copyOf(ys, size);
    }

    boolean isPoint() {
      return size == 1;
    }

    boolean isArea() {
      return size >= 3 && doubledSurface() != 0;
    }

    private int following(int i) {
      return i + 1 < size ? i + 1 : 0;
    }

    /** With a sign, that of the way round. */
    private int doubledSurface() {
      int sum = 0;
      for (int i = 0; i < size; i++) {
        int j = following(i);
        sum += xs[i] * ys[j] - xs[j] * ys[i];
      }
      return sum;
    }

    /** The square of the distance from the nearest corner. */
    int squareTo(int x, int y) {
      int least = NO_SQUARE;
      for (int i = 0; i < size; i++) {
        least = Math.min(least, squareFrom(i, x, y));
      }
      return least;
    }

    int squareFrom(int i, int x, int y) {
      int dx = x - xs[i];
      int dy = y - ys[i];
      return dx * dx + dy * dy;
    }

    boolean hasAllInside(Corners others) {
      for (int i = 0; i < others.size; i++) {
        if (!hasInside(others.xs[i], others.ys[i])) {
          return false;
        }
      }
      return true;
    }

    boolean hasInside(int x, int y) {
      boolean isOdd = false;
      for (int i = 0; i < size; i++) {
        int j = following(i);
        // Above 0 if the side, going up, passes right of the point; 0 if they are in line.
        int turn = (xs[i] - x) * (ys[j] - ys[i]) + (y - ys[i]) * (xs[j] - xs[i]);
        if (turn == 0 && isInBox(i, j, x, y)) {
          return true;
        }
        boolean isUp = ys[j] > ys[i];
        if ((ys[i] > y) != (ys[j] > y) && (turn > 0) == isUp) {
          isOdd = !isOdd;
        }
      }
      return isOdd;
    }

    private boolean isInBox(int i, int j, int x, int y) {
      return x >= Math.min(xs[i], xs[j]) && x <= Math.max(xs[i], xs[j])
          && y >= Math.min(ys[i], ys[j]) && y <= Math.max(ys[i], ys[j]);
    }
  }

  /** A word, folded when it is made. */
  private static final class Word {
    final char[] letters;
    final int size;

    Word(char[] written, int count) {
      letters = new char[count];
      int made = 0;
      for (int at = 0; at < count; at++) {
        char joined = at + 1 < count ? joinedLetter(written[at], written[at + 1]) : NO_LETTER;
        char letter = joined == NO_LETTER ? written[at] : joined;
        if (joined != NO_LETTER) {
          at++;
        } else {
          // The whole run is passed here, so that its last letter joins with none behind it.
          while (at + 1 < count && written[at + 1] == letter) {
            at++;
          }
        }
        if (made == 0 || letters[made - 1] != letter) {
          letters[made] = letter;
          made++;
        }
      }
      size = made;
    }

    private static char joinedLetter(char first, char second) {
      if (first == 'p' && second == 'h') {
        return 'f';
      }
      if ((first == 'c' && second == 'k') || (first == 'q' && second == 'u')) {
        return 'k';
      }
      return first == 't' && second == 'h' ? 't' : NO_LETTER;
    }

    /** Words have the same order as their ranks, and the same rank only if they are the same. */
    long rank() {
      long rank = 0;
      for (int i = 0; i < MOST_LETTERS; i++) {
        rank = rank * 27 + (i < size ? letters[i] - 'a' + 1 : 0);
      }
      return rank;
    }

    boolean beginsWith(Word start) {
      if (start.size > size) {
        return false;
      }
      for (int i = 0; i < start.size; i++) {
        if (letters[i] != start.letters[i]) {
          return false;
        }
      }
      return true;
    }

    int soundCode() {
      if (size == 0) {
        return 0;
      }
      int code = letters[0] - 'a' + 1;
      int signs = 1;
      for (int i = 1; i < size && signs < MOST_SIGNS; i++) {
        int soundClass = soundClass(i);
        if (soundClass != 0 && soundClass != soundClass(i - 1)) {
          code = (code << BITS_OF_A_SIGN) + soundClass;
          signs++;
        }
      }
      return code;
    }

    private int soundClass(int i) {
      return SOUND_CLASSES.charAt(letters[i] - 'a') - '0';
    }
  }

  /** Counts the errors between words, in a table that is used again. */
  private static final class ErrorCounter {
    /** For the first i letters of the one word and the first j of the other. */
    private final int[][] least = new int[MOST_LETTERS + 1][MOST_LETTERS + 1];

    int count(Word one, Word other) {
      for (int i = 0; i <= one.size; i++) {
        for (int j = 0; j <= other.size; j++) {
          least[i][j] = leastFor(one.letters, i, other.letters, j);
        }
      }
      return least[one.size][other.size];
    }

    private int leastFor(char[] one, int i, char[] other, int j) {
      if (i == 0 || j == 0) {
        return i + j;
      }
      int exchanged = least[i - 1][j - 1] + (one[i - 1] == other[j - 1] ? 0 : 1);
      int putInOrLeftOut = Math.min(least[i - 1][j], least[i][j - 1]) + 1;
      int best = Math.min(exchanged, putInOrLeftOut);
      boolean haveChangedPlaces = i > 1 && j > 1
          && one[i - 1] == other[j - 2] && one[i - 2] == other[j - 1];
      return haveChangedPlaces ? Math.min(best, least[i - 2][j - 2] + 1) : best;
    }
  }

  /** A name of a place for a span. */
  private static final class Name {
    final Word word;
    final int from;
    final int to;

    Name(Word word, int from, int to) {
      this.word = word;
      this.from = from;
      this.to = to;
    }

    boolean isOf(int day) {
      return from <= day && day <= to;
    }
  }

  /** A parent of a place for a span. */
  private static final class Link {
    final Place above;
    final int from;
    final int to;

    Link(Place above, int from, int to) {
      this.above = above;
      this.from = from;
      this.to = to;
    }

    boolean isWithin(int first, int last) {
      return from <= last && first <= to;
    }
  }

  private static final class Place {
    final int number;
    final int kind;
    int removedFrom = LAST_DAY + 1;
    final ArrayList<Corners> shapes = new ArrayList<>();
    final int[] shapeDays = new int[MOST_SHAPES];
    final ArrayList<Name> names = new ArrayList<>();
    final ArrayList<Link> links = new ArrayList<>();

    Place(int number, int kind) {
      this.number = number;
      this.kind = kind;
    }

    boolean takesShapeFrom(int day) {
      int count = shapes.size();
      return count < MOST_SHAPES && (count == 0 || shapeDays[count - 1] < day);
    }

    void addShape(Corners shape, int day) {
      if (shapes.size() < MOST_SHAPES) {
        shapeDays[shapes.size()] = day;
        shapes.add(shape);
      }
    }

    /** The shape that is valid on a day, whether the place is removed or not; null if none is. */
    Corners shapeOn(int day) {
      Corners latest = null;
      for (int i = 0; i < shapes.size(); i++) {
        if (shapeDays[i] <= day) {
          latest = shapes.get(i);
        }
      }
      return latest;
    }

    boolean isRemovedOn(int day) {
      return removedFrom <= day;
    }

    boolean isThere(int day) {
      return shapeOn(day) != null && !isRemovedOn(day);
    }

    /** The square of the distance from where the place stands, if it has a shape. */
    int squareTo(int x, int y, int day) {
      Corners shape = shapeOn(day);
      return shape == null ? NO_SQUARE : shape.squareTo(x, y);
    }

    boolean isLinkedWithin(int from, int to) {
      for (int i = 0; i < links.size(); i++) {
        if (links.get(i).isWithin(from, to)) {
          return true;
        }
      }
      return false;
    }

    /** The parent on a day; null if there is none. */
    Place aboveOn(int day) {
      for (int i = 0; i < links.size(); i++) {
        if (links.get(i).isWithin(day, day)) {
          return links.get(i).above;
        }
      }
      return null;
    }
  }

  /** Never changes, so that watches can share it; its word is empty if it takes none. */
  private static final class Condition {
    final int kind;
    final int a;
    final int b;
    final int c;
    final Word word;

    Condition(int kind, int a, int b, int c, Word word) {
      this.kind = kind;
      this.a = a;
      this.b = b;
      this.c = c;
      this.word = word;
    }
  }

  private static final class Watch {
    final ArrayList<Condition> conditions = new ArrayList<>();
    final Corners route;
    final int day;
    /** A bit for each place. */
    int toldPlaces = 0;

    Watch(Corners route, int day) {
      this.route = route;
      this.day = day;
    }

    boolean hasTold(int number) {
      return (toldPlaces & (1 << number)) != 0;
    }
  }

  /** Looks for the point of a route that is nearest to a shape; one object serves all searches. */
  private static final class RouteSearch {
    private boolean isFound;
    private int side;
    /** How far along the side, as a part of the side's squared length. */
    private int along;
    /** The square of the distance is whole + rest / divisor, rest being less than divisor. */
    private long whole;
    private long rest;
    private long divisor;

    void start(Corners route, Corners shape) {
      isFound = false;
      for (int i = 0; i + 1 < route.size; i++) {
        for (int j = 0; j < shape.size; j++) {
          measure(route, i, shape.xs[j], shape.ys[j]);
        }
      }
    }

    private void measure(Corners route, int i, int x, int y) {
      int dx = route.xs[i + 1] - route.xs[i];
      int dy = route.ys[i + 1] - route.ys[i];
      int fromX = x - route.xs[i];
      int fromY = y - route.ys[i];
      int length = dx * dx + dy * dy;
      int part = fromX * dx + fromY * dy;
      if (part > 0 && part < length) {
        // Whole and rest are kept apart: products of such fractions would not fit into a long.
        long off = (long) dx * fromY - (long) dy * fromX;
        takeIfBetter(i, part, off * off / length, off * off % length, length);
      } else if (part <= 0) {
        takeIfBetter(i, 0, route.squareFrom(i, x, y), 0, 1);
      } else {
        takeIfBetter(i, length, route.squareFrom(i + 1, x, y), 0, 1);
      }
    }

    /** Sides are tried in their order, so of equal points the first one on the route stays. */
    private void takeIfBetter(
        int newSide, int newAlong, long newWhole, long newRest, long newDivisor) {
      int compared = -1;
      if (isFound) {
        compared = newWhole != whole
            ? Long.compare(newWhole, whole)
            : Long.compare(newRest * divisor, rest * newDivisor);
      }
      if (compared < 0 || (compared == 0 && newSide == side && newAlong < along)) {
        isFound = true;
        side = newSide;
        along = newAlong;
        whole = newWhole;
        rest = newRest;
        divisor = newDivisor;
      }
    }

    boolean isWithin(int distance) {
      long square = (long) distance * distance;
      return isFound && (whole < square || (whole == square && rest == 0));
    }

    /** By side, then by the part of it, which needs fewer than 32 bits; 0 without a route. */
    long positionKey() {
      return isFound ? ((long) side << 32) + along : 0;
    }
  }

  /** The places that were found latest, by their keys and, of equal keys, as they came. */
  private static final class Hits {
    final int[] numbers = new int[MOST_PLACES];
    private final long[] keys = new long[MOST_PLACES];
    int count = 0;

    void empty() {
      count = 0;
    }

    void add(int number, long key) {
      if (count >= MOST_PLACES) {
        return;
      }
      int at = count;
      while (at > 0 && keys[at - 1] > key) {
        keys[at] = keys[at - 1];
        numbers[at] = numbers[at - 1];
        at--;
      }
      keys[at] = key;
      numbers[at] = number;
      count++;
    }

    void keepFirst(int most) {
      count = Math.min(count, most);
    }
  }
}
