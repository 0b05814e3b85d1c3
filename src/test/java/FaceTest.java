import java.io.IOException;
import java.lang.reflect.Constructor;
import java.lang.reflect.Field;
import java.lang.reflect.Method;
import java.lang.reflect.Modifier;
import java.nio.file.Files;
import java.nio.file.Path;
import java.util.ArrayList;
import java.util.Arrays;
import java.util.List;
import java.util.TreeSet;
import java.util.regex.Matcher;
import java.util.regex.Pattern;

/** The face is the document's, and the source keeps to the rules of LANGUAGE.md that a test can see. */
public final class FaceTest {
  private static final Path SOURCE = Path.of("src/main/java/RingTransit.java");
  private static final Path DOCUMENT = Path.of("../shared/DOC.md");

  private FaceTest() {
  }

  private static String signature(Method method) {
    StringBuilder text = new StringBuilder();
    text.append(method.getReturnType().getSimpleName()).append(' ').append(method.getName());
    text.append('(');
    for (Class<?> type : method.getParameterTypes()) {
      text.append(type.getSimpleName()).append(' ');
    }
    text.append(") ");
    for (Class<?> thrown : method.getExceptionTypes()) {
      text.append(thrown.getSimpleName()).append(' ');
    }
    return text.toString();
  }

  /** The same texts as signature makes, from the document's face. */
  private static TreeSet<String> dueSignatures() throws IOException {
    String document = Files.readString(DOCUMENT);
    String face = document.substring(document.indexOf("```java"), document.indexOf("## Terms"));
    Matcher matcher =
        Pattern.compile("public (\\w+) (\\w+)\\(([^)]*)\\)(?: throws ([^;]*))?;").matcher(face);
    TreeSet<String> due = new TreeSet<>();
    while (matcher.find()) {
      StringBuilder text = new StringBuilder();
      text.append(matcher.group(1)).append(' ').append(matcher.group(2)).append('(');
      for (String parameter : matcher.group(3).split(",")) {
        if (!parameter.isBlank()) {
          text.append(parameter.trim().split(" ")[0]).append(' ');
        }
      }
      text.append(") ");
      if (matcher.group(4) != null) {
        for (String thrown : matcher.group(4).split(",")) {
          text.append(thrown.trim()).append(' ');
        }
      }
      due.add(text.toString());
    }
    return due;
  }

  private static void face() throws IOException {
    TreeSet<String> methods = new TreeSet<>();
    TreeSet<String> publicNames = new TreeSet<>();
    List<String> hiddenNames = new ArrayList<>();
    for (Method method : RingTransit.class.getDeclaredMethods()) {
      if (Modifier.isPublic(method.getModifiers())) {
        methods.add(signature(method));
        publicNames.add(method.getName());
      } else {
        Check.same(method.getName(), true, Modifier.isPrivate(method.getModifiers()));
        hiddenNames.add(method.getName());
      }
    }
    Check.same("methods", dueSignatures(), methods);
    Check.same("61 methods", 61, methods.size());
    for (Class<?> inside : RingTransit.class.getDeclaredClasses()) {
      Check.same(inside.getName() + " static", true, Modifier.isStatic(inside.getModifiers()));
      Check.same(inside.getName() + " hidden", false, Modifier.isPublic(inside.getModifiers()));
      for (Method method : inside.getDeclaredMethods()) {
        hiddenNames.add(method.getName());
      }
    }
    for (String name : hiddenNames) {
      Check.same("no second " + name, false, publicNames.contains(name));
    }
    Check.same("public final", Modifier.PUBLIC | Modifier.FINAL, RingTransit.class.getModifiers());
    Constructor<?>[] constructors = RingTransit.class.getDeclaredConstructors();
    Check.same("one constructor", 1, constructors.length);
    Check.same("public constructor", true, Modifier.isPublic(constructors[0].getModifiers()));
  }

  private static void fields() {
    List<Class<?>> classes = new ArrayList<>();
    classes.add(RingTransit.class);
    classes.addAll(Arrays.asList(RingTransit.class.getDeclaredClasses()));
    Check.same("some twelve classes", true, classes.size() <= 12);
    for (Class<?> one : classes) {
      int own = 0;
      for (Field field : one.getDeclaredFields()) {
        boolean isStatic = Modifier.isStatic(field.getModifiers());
        Check.same(
            field + " is final", true, !isStatic || Modifier.isFinal(field.getModifiers()));
        own += isStatic ? 0 : 1;
        if (one == RingTransit.class) {
          Check.same(field + " is private", true, Modifier.isPrivate(field.getModifiers()));
        }
      }
      Check.same(one.getName() + " has some twenty fields", true, own <= 20);
    }
  }

  private static void sizes() throws IOException {
    List<Class<?>> classes = new ArrayList<>(Arrays.asList(RingTransit.class.getDeclaredClasses()));
    classes.add(RingTransit.class);
    for (Class<?> one : classes) {
      for (Method method : one.getDeclaredMethods()) {
        Check.same("rule 11: " + method, true, method.getParameterCount() <= 7);
      }
    }
    List<String> lines = Files.readAllLines(SOURCE);
    String indent = "  ";
    int start = 0;
    int methods = 0;
    for (int line = 0; line < lines.size(); line++) {
      if (lines.get(line).matches("  private.* (class|enum) .*")) {
        indent = "    ";
      }
      if (lines.get(line).matches(indent + "\\w.*\\(.*")) {
        start = line;
      }
      if (lines.get(line).equals(indent + "}")) {
        methods++;
        Check.same("rule 11: the method at line " + (start + 1), true, line - start <= 60);
      }
    }
    Check.same("rule 11: methods were found", true, methods > 150);
  }

  private static void words() throws IOException {
    String source = Files.readString(SOURCE);
    String[] barred = {
      "try", "catch", "finally", "synchronized", "assert", "instanceof", "package", "volatile",
      "native", "transient", "hashCode", "equals", "toString", "getMessage", "Exact", "protected",
      "var", "yield", "record", "System.out", "Random", "Thread", "ordinal", "name\\(", "->", "::",
    };
    for (String word : barred) {
      String bound = word.matches("\\w+") && !word.equals("Exact") ? "\\b" : "";
      Check.same(word, false, Pattern.compile(bound + word + bound).matcher(source).find());
    }
    List<String> imports = new ArrayList<>();
    for (String line : source.split("\n")) {
      if (line.startsWith("import ")) {
        imports.add(line);
      }
    }
    Check.same(
        "imports",
        List.of("import java.util.Arrays;", "import java.util.NoSuchElementException;"),
        imports);
    Check.same("plain signs", true, source.chars().allMatch(sign -> sign == '\n' || sign > 31 && sign < 127));
  }

  public static void main(String[] args) throws IOException {
    face();
    fields();
    sizes();
    words();
    Check.end("FaceTest");
  }
}
