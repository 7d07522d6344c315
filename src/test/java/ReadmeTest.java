import java.io.IOException;
import java.lang.reflect.Method;
import java.lang.reflect.Modifier;
import java.nio.file.Files;
import java.nio.file.Path;
import java.util.ArrayList;
import java.util.Collections;
import java.util.List;
import java.util.regex.Matcher;
import java.util.regex.Pattern;
import javax.tools.ToolProvider;

/** README.md has the whole face, and its examples answer what it says. */
public final class ReadmeTest {
  private static final Pattern EXAMPLE = Pattern.compile("```java\n(.*?)```", Pattern.DOTALL);
  /** A call, perhaps kept in a number, with the answer that stands behind it. */
  private static final Pattern ANSWERED = Pattern.compile("(?:int (\\w+) = )?(finder\\..*);\\s*// = ([-\\w]+).*");
  private static final Pattern REFUSAL = Pattern.compile("`(\\w+Exception)`");

  private ReadmeTest() {
  }

  public static void main(String[] args) throws IOException, ReflectiveOperationException {
    String readme = Files.readString(Path.of("README.md"));
    for (Method method : PlaceFinder.class.getDeclaredMethods()) {
      if (Modifier.isPublic(method.getModifiers())) {
        Check.due("the row of " + method.getName(), declared(method), () -> refusals(readme, method));
      }
    }
    Check.due("the constructor's row", true, () -> readme.contains("\n| `new PlaceFinder()` |"));
    runExamples(readme);
    Check.end();
  }

  private static List<String> declared(Method method) {
    List<String> names = new ArrayList<>();
    for (Class<?> type : method.getExceptionTypes()) {
      names.add(type.getSimpleName());
    }
    return names;
  }

  /** The exceptions in the table's row of a call with as many numbers. */
  private static Object refusals(String readme, Method method) {
    String numbers = String.join(", ", Collections.nCopies(method.getParameterCount(), "\\w+"));
    Matcher row = Pattern.compile("\n\\| `" + method.getName() + "\\(" + numbers + "\\)` \\|.*").matcher(readme);
    return row.find() ? REFUSAL.matcher(row.group()).results().map(found -> found.group(1)).toList() : "no row";
  }

  /** The examples are one program; it comes into the folder of this class, to see what this class sees. */
  private static void runExamples(String readme) throws IOException, ReflectiveOperationException {
    StringBuilder program = new StringBuilder("final class Examples { static void run() {\n");
    EXAMPLE.matcher(readme).results().flatMap(found -> found.group(1).lines())
        .forEach(line -> program.append(checked(line)).append('\n'));
    String folder = System.getProperty("java.class.path");
    Path file = Path.of(folder, "Examples.java");
    Files.writeString(file, program.append("} }\n"));
    int compiled = ToolProvider.getSystemJavaCompiler()
        .run(null, null, null, "-cp", folder, "-d", folder, file.toString());
    Check.due("the examples can be compiled", 0, () -> compiled);
    if (compiled == 0) {
      Class.forName("Examples").getDeclaredMethod("run").invoke(null);
    }
  }

  private static String checked(String line) {
    Matcher parts = ANSWERED.matcher(line);
    if (!parts.matches()) {
      return line;
    }
    String call = parts.group(2);
    String due = parts.group(3);
    String what = "Check.due(\"README.md: " + call + "\", ";
    if (due.endsWith("Exception")) {
      return what + "\"" + due + "\", () -> Check.done(() -> " + call + "));";
    }
    String kept = parts.group(1);
    return kept == null
        ? what + due + ", () -> " + call + ");"
        : "int " + kept + " = " + call + "; " + what + due + ", () -> " + kept + ");";
  }
}
