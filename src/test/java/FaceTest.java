import java.lang.reflect.Field;
import java.lang.reflect.Method;
import java.lang.reflect.Modifier;
import java.util.Arrays;
import java.util.List;
import java.util.TreeSet;

/** The public face is the document's, and nothing else of the class can be seen. */
public final class FaceTest {
  private static final List<String> FACE = List.of(
      "int place(int) IllegalArgumentException IllegalStateException",
      "int corner(int, int) IllegalArgumentException IllegalStateException",
      "void shape(int, int) IllegalArgumentException IllegalStateException",
      "void route()",
      "boolean letter(int)",
      "void name(int, int, int) IllegalArgumentException IllegalStateException",
      "void parent(int, int, int, int) IllegalArgumentException UnsupportedOperationException"
          + " IllegalStateException",
      "void remove(int, int) IllegalArgumentException IllegalStateException",
      "int condition(int, int, int, int) IllegalArgumentException IllegalStateException",
      "void clear()",
      "int find(int, int) IllegalArgumentException",
      "int near(int, int, int, int, int) IllegalArgumentException",
      "int hit(int) IndexOutOfBoundsException",
      "int chain(int, int, int) IllegalArgumentException",
      "int holds(int, int, int, int) IllegalArgumentException",
      "int sound()",
      "int errors(int, int) NoSuchElementException",
      "void watch(int, int) IllegalArgumentException",
      "int news(int) IllegalArgumentException",
      "int told(int) IllegalArgumentException");

  private FaceTest() {
  }

  public static void main(String[] args) {
    Class<?> face = PlaceFinder.class;
    Check.due("public and final", Modifier.PUBLIC | Modifier.FINAL, face::getModifiers);
    Check.due("methods", new TreeSet<>(FACE), () -> visibleMethods(face));
    Check.due("fields that can be seen", 0L, () -> Arrays.stream(face.getDeclaredFields())
        .filter(f -> !Modifier.isPrivate(f.getModifiers())).count());
    Check.due("static fields that are not final", 0L, () -> Arrays.stream(face.getDeclaredFields())
        .filter(FaceTest::isChangeable).count());
    Check.due("constructors", "[public PlaceFinder()]", () -> Arrays.toString(face.getDeclaredConstructors()));
    Check.due("private methods with a public name", 0L, () -> Arrays.stream(face.getDeclaredMethods())
        .filter(m -> Modifier.isPrivate(m.getModifiers()) && isPublicName(m.getName())).count());
    Check.end();
  }

  private static boolean isChangeable(Field field) {
    return Modifier.isStatic(field.getModifiers()) && !Modifier.isFinal(field.getModifiers());
  }

  private static boolean isPublicName(String name) {
    return FACE.stream().anyMatch(line -> line.contains(" " + name + "("));
  }

  private static TreeSet<String> visibleMethods(Class<?> face) {
    TreeSet<String> lines = new TreeSet<>();
    for (Method method : face.getDeclaredMethods()) {
      if (!Modifier.isPrivate(method.getModifiers())) {
        lines.add(line(method));
      }
    }
    return lines;
  }

  private static String line(Method method) {
    StringBuilder line = new StringBuilder();
    line.append(method.getReturnType().getSimpleName()).append(' ').append(method.getName()).append('(');
    String separator = "";
    for (Class<?> type : method.getParameterTypes()) {
      line.append(separator).append(type.getSimpleName());
      separator = ", ";
    }
    line.append(')');
    for (Class<?> type : method.getExceptionTypes()) {
      line.append(' ').append(type.getSimpleName());
    }
    return line.toString();
  }
}
