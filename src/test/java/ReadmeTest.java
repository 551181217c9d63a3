import java.io.IOException;
import java.lang.reflect.Method;
import java.lang.reflect.Modifier;
import java.nio.file.Files;
import java.nio.file.Path;
import java.util.List;
import java.util.regex.Matcher;
import java.util.regex.Pattern;
import java.util.stream.Collectors;
import java.util.stream.Stream;

/** Makes the calls that README.md shows, and compares what they answer with what it says behind each. */
public final class ReadmeTest extends Courts {
  private static final Pattern SAY = Pattern.compile("say\\(court, \"([^\"]*)\"\\);.*");
  private static final Pattern CALL = Pattern.compile("court\\.(\\w+)\\(([-0-9, ]*)\\); +// (-?\\d+)\\b.*");

  private static int calls = 0;

  private static long answer(ParrotCourt court, String name, String numbers) throws ReflectiveOperationException {
    String[] texts = numbers.isEmpty() ? new String[0] : numbers.split(", ");
    Object[] given = Stream.of(texts).map(Integer::valueOf).toArray();
    Class<?>[] types = Stream.of(texts).map(text -> int.class).toArray(Class<?>[]::new);
    return ((Number) ParrotCourt.class.getMethod(name, types).invoke(court, given)).longValue();
  }

  private static void examples(List<String> lines) throws ReflectiveOperationException {
    ParrotCourt court = new ParrotCourt();
    boolean java = false;
    for (String line : lines) {
      if (line.startsWith("```")) java = line.equals("```java");
      if (!java || line.startsWith("```") || line.equals("ParrotCourt court = new ParrotCourt();")) continue;
      Matcher say = SAY.matcher(line);
      Matcher call = CALL.matcher(line);
      if (say.matches()) {
        say(court, say.group(1));
      } else if (call.matches()) {
        due(line, answer(court, call.group(1), call.group(2)), Long.parseLong(call.group(3)));
        calls++;
      } else {
        due("a line that can't be read: " + line, 0, 1);
      }
    }
    due("calls shown, forty at least:", calls >= 40 ? 1 : 0, 1);
  }

  private static void names(String page) throws IOException {
    for (Method method : ParrotCourt.class.getDeclaredMethods()) {
      if (!Modifier.isPublic(method.getModifiers())) continue;
      due("README.md names " + method.getName(), page.contains("court." + method.getName() + "(") ? 1 : 0, 1);
    }
    List<String> tests;
    try (Stream<Path> files = Files.list(Path.of("src/test/java"))) {
      tests = files.map(file -> file.getFileName().toString().replace(".java", "")).collect(Collectors.toList());
    }
    for (String test : tests) due("README.md names " + test, page.contains("`" + test + "`") ? 1 : 0, 1);
    due("README.md tells how to run all tests:", page.contains("    .ci/run\n") ? 1 : 0, 1);
  }

  public static void main(String[] args) throws IOException, ReflectiveOperationException {
    place = "README.md";
    String page = Files.readString(Path.of("README.md"));
    examples(page.lines().collect(Collectors.toList()));
    names(page);
    System.out.println(calls + " calls of README.md made, " + wrong + " wrong");
    if (wrong != 0) System.exit(1);
  }
}
