import java.io.IOException;
import java.lang.reflect.InvocationTargetException;
import java.lang.reflect.Method;
import java.lang.reflect.Modifier;
import java.nio.file.Files;
import java.nio.file.Path;
import java.util.ArrayList;
import java.util.List;
import java.util.TreeSet;
import java.util.regex.Matcher;
import java.util.regex.Pattern;
import java.util.stream.Stream;

/** What README.md says is so: its calls answer as it tells, its commands end well, its table is whole. */
public final class ReadmeTest {
  private static final Path README = Path.of("README.md");
  private static final Path TESTS = Path.of("src/test/java");
  private static final Pattern CALL = Pattern.compile("x\\.(\\w+)\\((.*)\\);\\s+// (.*)");

  private ReadmeTest() {
  }

  private static List<String> linesOf(String text, String kind) {
    List<String> lines = new ArrayList<>();
    Matcher matcher = Pattern.compile("```" + kind + "\n(.*?)```", Pattern.DOTALL).matcher(text);
    while (matcher.find()) {
      lines.addAll(List.of(matcher.group(1).split("\n")));
    }
    return lines;
  }

  private static Method named(String name) {
    for (Method method : RingTransit.class.getDeclaredMethods()) {
      if (method.getName().equals(name) && Modifier.isPublic(method.getModifiers())) {
        return method;
      }
    }
    throw new IllegalStateException("no method " + name);
  }

  private static Object valueOf(String text, Class<?> type) {
    if (type == char.class) {
      return text.charAt(1);
    }
    return type == boolean.class ? (Object) Boolean.valueOf(text) : (Object) Integer.valueOf(text);
  }

  private static String answerOf(RingTransit x, String name, String told)
      throws IllegalAccessException {
    Method method = named(name);
    String[] texts = told.isEmpty() ? new String[0] : told.split(", ");
    Object[] arguments = new Object[texts.length];
    for (int index = 0; index < texts.length; index++) {
      arguments[index] = valueOf(texts[index], method.getParameterTypes()[index]);
    }
    try {
      Object answer = method.invoke(x, arguments);
      return answer instanceof Character ? "'" + answer + "'" : answer.toString();
    } catch (InvocationTargetException thrown) {
      return "throws " + thrown.getCause().getClass().getSimpleName();
    }
  }

  private static void calls(String text) throws IllegalAccessException {
    List<String> lines = linesOf(text, "java");
    Check.same("the object", "RingTransit x = new RingTransit();", lines.get(0));
    RingTransit x = new RingTransit();
    for (String line : lines.subList(1, lines.size())) {
      Matcher matcher = CALL.matcher(line);
      Check.same("a call: " + line, true, matcher.matches());
      Check.same(line, matcher.group(3), answerOf(x, matcher.group(1), matcher.group(2)));
    }
  }

  private static void commands(String text) throws IOException, InterruptedException {
    boolean tellsOfAll = false;
    for (String line : linesOf(text, "sh")) {
      if (line.equals("bash .ci/run")) {
        tellsOfAll = true;
        Check.same(line, true, Files.isRegularFile(Path.of(".ci/run")));
        continue;
      }
      Process process =
          new ProcessBuilder("bash", "-c", line)
              .redirectErrorStream(true)
              .redirectOutput(ProcessBuilder.Redirect.DISCARD)
              .start();
      Check.same(line, 0, process.waitFor());
    }
    Check.same("how all tests are run", true, tellsOfAll);
  }

  private static void table(String text) throws IOException {
    TreeSet<String> told = new TreeSet<>();
    Matcher matcher = Pattern.compile("(?m)^\\| `(\\w+)` \\|").matcher(text);
    while (matcher.find()) {
      told.add(matcher.group(1));
    }
    TreeSet<String> found = new TreeSet<>();
    try (Stream<Path> files = Files.list(TESTS)) {
      files
          .map(file -> file.getFileName().toString())
          .filter(name -> name.endsWith("Test.java"))
          .forEach(name -> found.add(name.replace(".java", "")));
    }
    Check.same("the table of tests", found, told);
  }

  public static void main(String[] args) throws Exception {
    String text = Files.readString(README);
    calls(text);
    commands(text);
    table(text);
    Check.end("ReadmeTest");
  }
}
