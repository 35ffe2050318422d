import java.io.IOException;
import java.lang.reflect.Method;
import java.nio.file.DirectoryStream;
import java.nio.file.Files;
import java.nio.file.Path;
import java.util.TreeSet;
import java.util.regex.Matcher;
import java.util.regex.Pattern;

/** README.md tells the truth: its example answers as told, and it names every call and test. */
public final class ReadmeTest {
  private static final Checks CHECKS = new Checks("ReadmeTest");
  private static final Pattern STEP = Pattern.compile("x\\.(\\w+)\\((.*)\\); +// (-?\\d+)(?::.*)?");

  public static void main(String[] args) throws IOException, ReflectiveOperationException {
    String page = Files.readString(Path.of("README.md"));
    example(page);
    namesTests(page);
    CHECKS.due("how to run the tests", page.contains("\n    .ci/run\n") ? 1 : 0, 1);
    CHECKS.end();
  }

  private static void example(String page) throws ReflectiveOperationException {
    TreeSet<String> called = new TreeSet<>();
    KeptTables x = new KeptTables();
    for (String line : page.split("\n")) {
      if (!line.startsWith("x.")) {
        continue;
      }
      Matcher step = STEP.matcher(line);
      CHECKS.due("a call with its answer: " + line, step.matches() ? 1 : 0, 1);
      if (step.matches()) {
        called.add(step.group(1));
        CHECKS.due(line, answer(x, step.group(1), step.group(2)), Long.parseLong(step.group(3)));
      }
    }
    for (Method method : KeptTables.class.getMethods()) {
      if (method.getDeclaringClass() == KeptTables.class) {
        String name = method.getName();
        CHECKS.due("the example has " + name, called.contains(name) ? 1 : 0, 1);
      }
    }
  }

  private static long answer(KeptTables x, String name, String written)
      throws ReflectiveOperationException {
    String[] words = written.split(", ");
    Object[] arguments = new Object[words.length];
    Class<?>[] types = new Class<?>[words.length];
    for (int i = 0; i < words.length; i++) {
      arguments[i] = value(words[i]);
      types[i] = type(words[i]);
    }
    Number got = (Number) KeptTables.class.getMethod(name, types).invoke(x, arguments);
    return got.longValue();
  }

  private static Object value(String word) {
    if (type(word) == boolean.class) {
      return Boolean.valueOf(word);
    }
    if (type(word) == long.class) {
      return Long.valueOf(word.substring(0, word.length() - 1));
    }
    return Integer.valueOf(word);
  }

  private static Class<?> type(String word) {
    if (word.equals("true") || word.equals("false")) {
      return boolean.class;
    }
    return word.endsWith("L") ? long.class : int.class;
  }

  private static void namesTests(String page) throws IOException {
    try (DirectoryStream<Path> files =
        Files.newDirectoryStream(Path.of("src/test/java"), "*{Test,Edges}.java")) {
      for (Path file : files) {
        String name = file.getFileName().toString().replace(".java", "");
        CHECKS.due("the page names " + name, page.contains("`" + name + "`") ? 1 : 0, 1);
      }
    }
  }
}
