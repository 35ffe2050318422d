import java.io.IOException;
import java.lang.reflect.Array;
import java.lang.reflect.Field;
import java.lang.reflect.Method;
import java.lang.reflect.Modifier;
import java.nio.file.Files;
import java.nio.file.Path;
import java.util.ArrayList;
import java.util.IdentityHashMap;
import java.util.List;
import java.util.Map;
import java.util.TreeMap;
import java.util.TreeSet;
import java.util.regex.Matcher;
import java.util.regex.Pattern;

/** The rules of the language that count something: parameters, lines, depth, fields, objects. */
public final class LanguageTest {
  private static final Checks CHECKS = new Checks("LanguageTest");
  private static final Path SOURCE = Path.of("src/main/java/KeptTables.java");
  private static final int MOST_PARAMETERS = 7;
  private static final int MOST_LINES = 60;
  private static final int MOST_DEPTH = 8;
  private static final int MOST_FIELDS = 20;
  /** A run of 512 calls, each making a new object, stays far below what a room has. */
  private static final int MOST_OBJECTS = 600_000 / 512 / 10;
  private static final int MOST_ELEMENTS = 7_300_000 / 512 / 3;

  private static final Pattern HEAD = Pattern.compile(
      "^ +(?:(?:public|private|static|final) )*(?:[\\w\\[\\]]+ )?(\\w+)\\((.*)\\) \\{(\\})?$");
  private static final Pattern NEW = Pattern.compile("\\bnew\\b|\\.clone\\(");
  private static final Pattern NEW_FIELD =
      Pattern.compile("(?m)^ +private (?:final )?[\\w\\[\\]]+ \\w+ = new [\\w\\[\\]()* ]+;$");
  private static final Pattern CALL = Pattern.compile("\\b(\\w+)\\(");

  /** A method as it stands in the text. Methods of one name count as one. */
  private static final class Shape {
    int lines = 0;
    int parameters = 0;
    final StringBuilder body = new StringBuilder();
  }

  public static void main(String[] args) throws IOException {
    String text = Files.readString(SOURCE);
    String code = text.replaceAll("(?s)/\\*.*?\\*/", "").replaceAll(" *//[^\n]*", "");
    Map<String, Shape> shapes = shapes(code);
    allFound(shapes);
    sizes(shapes);
    depths(shapes);
    fields();
    objectsMade(shapes, code);
    objectsKept();
    CHECKS.end();
  }

  private static Map<String, Shape> shapes(String code) {
    Map<String, Shape> found = new TreeMap<>();
    Shape open = null;
    int lines = 0;
    int indent = 0;
    for (String line : code.split("\n")) {
      Matcher head = HEAD.matcher(line);
      if (open == null && head.matches()) {
        open = found.computeIfAbsent(head.group(1), name -> new Shape());
        String parameters = head.group(2);
        int count = parameters.isEmpty() ? 0 : parameters.split(",").length;
        open.parameters = Math.max(open.parameters, count);
        lines = 0;
        indent = line.indexOf(line.trim());
        if (head.group(3) != null) {
          open = null;
        }
      } else if (open != null) {
        lines++;
        open.lines = Math.max(open.lines, lines);
        open.body.append(line).append('\n');
        if (line.equals(" ".repeat(indent) + "}")) {
          open = null;
        }
      }
    }
    return found;
  }

  private static List<Class<?>> classes() {
    List<Class<?>> classes = new ArrayList<>(List.of(KeptTables.class.getDeclaredClasses()));
    classes.add(KeptTables.class);
    return classes;
  }

  /** The rest of this test sees only what was found in the text. */
  private static void allFound(Map<String, Shape> shapes) {
    for (Class<?> one : classes()) {
      for (Method method : one.getDeclaredMethods()) {
        CHECKS.due(method + " is found", shapes.containsKey(method.getName()) ? 1 : 0, 1);
      }
    }
  }

  private static void sizes(Map<String, Shape> shapes) {
    shapes.forEach((name, shape) -> {
      boolean small = shape.parameters <= MOST_PARAMETERS && shape.lines <= MOST_LINES;
      CHECKS.due("rule 11: " + name + " is small", small ? 1 : 0, 1);
    });
  }

  private static void depths(Map<String, Shape> shapes) {
    for (String name : shapes.keySet()) {
      int depth = depth(shapes, name, new ArrayList<>());
      String what = "rules 8, 11: " + name + " goes " + depth + " deep";
      CHECKS.due(what, depth <= MOST_DEPTH ? 1 : 0, 1);
    }
  }

  /** How many calls stand open at once below this one, itself included; too many in a round. */
  private static int depth(Map<String, Shape> shapes, String name, List<String> above) {
    Shape shape = shapes.get(name);
    if (shape == null) {
      return 1;
    }
    if (above.contains(name)) {
      return MOST_DEPTH + 1;
    }
    above.add(name);
    int deepest = 0;
    Matcher call = CALL.matcher(shape.body);
    TreeSet<String> called = new TreeSet<>();
    while (call.find()) {
      called.add(call.group(1));
    }
    for (String other : called) {
      deepest = Math.max(deepest, depth(shapes, other, above));
    }
    above.remove(name);
    return 1 + deepest;
  }

  private static void fields() {
    for (Class<?> one : classes()) {
      int own = 0;
      for (Field field : one.getDeclaredFields()) {
        boolean constant = Modifier.isStatic(field.getModifiers());
        own += constant ? 0 : 1;
        boolean plain = Modifier.isFinal(field.getModifiers()) && field.getType().isPrimitive();
        CHECKS.due("rule 5: " + field, constant && !plain ? 1 : 0, 0);
      }
      CHECKS.due("rule 11: fields of " + one, own <= MOST_FIELDS ? 1 : 0, 1);
    }
  }

  /** All rows are made with the object, by its fields and its constructor: no call makes one. */
  private static void objectsMade(Map<String, Shape> shapes, String code) {
    int inAll = count(NEW, code);
    int byFields = count(NEW_FIELD, code);
    int byConstructor = count(NEW, shapes.get("KeptTables").body.toString());
    CHECKS.due("rule 12: objects made by calls", inAll - byFields - byConstructor, 0);
    boolean copies = Pattern.compile("\\bArrays\\b|\\bString|\\bList\\b").matcher(code).find();
    CHECKS.due("rule 12: copies, texts or lists", copies ? 1 : 0, 0);
  }

  private static int count(Pattern pattern, String text) {
    return (int) pattern.matcher(text).results().count();
  }

  private static void objectsKept() {
    KeptTables x = new KeptTables();
    int[] before = measure(x);
    Stories.crowd(x);
    x.times(2, 2, 5);
    x.narrow(3);
    x.cheapest(3, 2);
    x.walks(2, 0, 1, 60);
    int[] behind = measure(x);
    CHECKS.due("objects of a new one", before[0] <= MOST_OBJECTS ? 1 : 0, 1);
    CHECKS.due("elements of a new one", before[1] <= MOST_ELEMENTS ? 1 : 0, 1);
    CHECKS.due("objects behind some calls", behind[0], before[0]);
    CHECKS.due("elements behind some calls", behind[1], before[1]);
  }

  /** How many objects and arrays hang on this one, and how many fields and elements these have. */
  private static int[] measure(Object from) {
    IdentityHashMap<Object, Boolean> seen = new IdentityHashMap<>();
    List<Object> open = new ArrayList<>(List.of(from));
    int elements = 0;
    while (!open.isEmpty()) {
      Object one = open.remove(open.size() - 1);
      if (seen.put(one, true) == null) {
        elements += one.getClass().isArray() ? addItems(one, open) : addFields(one, open);
      }
    }
    return new int[] {seen.size(), elements};
  }

  private static int addItems(Object array, List<Object> open) {
    int length = Array.getLength(array);
    for (int i = 0; i < length && !array.getClass().getComponentType().isPrimitive(); i++) {
      if (Array.get(array, i) != null) {
        open.add(Array.get(array, i));
      }
    }
    return length;
  }

  private static int addFields(Object object, List<Object> open) {
    int n = 0;
    for (Field field : object.getClass().getDeclaredFields()) {
      if (Modifier.isStatic(field.getModifiers())) {
        continue;
      }
      n++;
      field.setAccessible(true);
      try {
        if (!field.getType().isPrimitive() && field.get(object) != null) {
          open.add(field.get(object));
        }
      } catch (IllegalAccessException closed) {
        CHECKS.due("a look at " + field, closed.toString(), "open");
      }
    }
    return n;
  }
}
