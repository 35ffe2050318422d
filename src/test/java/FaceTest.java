import java.io.IOException;
import java.lang.reflect.Constructor;
import java.lang.reflect.Field;
import java.lang.reflect.Method;
import java.lang.reflect.Modifier;
import java.nio.file.Files;
import java.nio.file.Path;
import java.util.Arrays;
import java.util.TreeSet;
import java.util.regex.Matcher;
import java.util.regex.Pattern;

/** The public face, and the rules of the language that can be seen from outside or in the text. */
public final class FaceTest {
  private static final Checks CHECKS = new Checks("FaceTest");
  private static final String[] FACE = {
    "int table(int,int,int)", "int triple(int,int,long)", "int list(int)", "int listed(int)",
    "int join(int)", "int count(int,int)", "long at(int,int,int)", "int kept(int,int,int)",
    "int place(int,int)", "int set(int,int,int,long)", "int prune(int)",
    "int add(int,int,int,long,long)", "int times(int,int,int)", "int each(int,int,int)",
    "int mask(int,int,int,boolean)", "int turn(int,int)", "int rows(int,int)",
    "int slopes(int,int,int,int,boolean)", "long sum(int,boolean,int)", "int cost(int,int,int)",
    "int cheapest(int,int)", "long cell(int,int,int,int)", "long walks(int,int,int,int)",
    "int way(int,int,int)", "int ring(int,int)", "int sort(int)", "int narrow(int)",
    "int width(int)"
  };
  /** Patterns of what the rules of the language leave out. */
  private static final String[] RULED_OUT = {
    "\\b(throw|throws|try|catch|synchronized|assert|native|volatile)\\b",
    "\\b(import|package|public static|protected)\\b",
    "\\bSystem\\.(?!arraycopy\\b)",
    "\\b\\w+Exact\\b",
    "->",
    "::"
  };

  private static final Path DOCUMENT = Path.of("../shared/DOC.md");
  private static final Pattern TOLD = Pattern.compile("    public (int|long) (\\w+)\\((.*)\\);");

  public static void main(String[] args) throws IOException {
    face();
    faceAsTold();
    members();
    namesOfOwnMethods();
    text();
    CHECKS.end();
  }

  private static String shown(Method method) {
    StringBuilder text = new StringBuilder();
    text.append(method.getReturnType().getName()).append(' ').append(method.getName()).append('(');
    Class<?>[] types = method.getParameterTypes();
    for (int i = 0; i < types.length; i++) {
      text.append(i == 0 ? "" : ",").append(types[i].getName());
    }
    return text.append(')').toString();
  }

  private static void face() {
    TreeSet<String> found = new TreeSet<>();
    for (Method method : KeptTables.class.getDeclaredMethods()) {
      if (!Modifier.isPrivate(method.getModifiers())) {
        found.add(shown(method));
      }
    }
    CHECKS.due("the face", found.toString(), new TreeSet<>(Arrays.asList(FACE)).toString());
    CHECKS.due("the class", Modifier.toString(KeptTables.class.getModifiers()), "public final");
    Constructor<?>[] constructors = KeptTables.class.getDeclaredConstructors();
    CHECKS.due("constructors", constructors.length, 1);
    CHECKS.due("the constructor", constructors[0].toString(), "public KeptTables()");
  }

  /** The list above is the document's own. */
  private static void faceAsTold() throws IOException {
    if (!Files.exists(DOCUMENT)) {
      return;
    }
    TreeSet<String> told = new TreeSet<>();
    for (String line : Files.readAllLines(DOCUMENT)) {
      Matcher method = TOLD.matcher(line);
      if (method.matches()) {
        String types = method.group(3).replaceAll(" \\w+(, |$)", "$1").replace(", ", ",");
        told.add(method.group(1) + " " + method.group(2) + "(" + types + ")");
      }
    }
    String listed = new TreeSet<>(Arrays.asList(FACE)).toString();
    CHECKS.due("the document's face", listed, told.toString());
  }

  private static void members() {
    for (Field field : KeptTables.class.getDeclaredFields()) {
      CHECKS.due(field + " is private", Modifier.isPrivate(field.getModifiers()) ? 1 : 0, 1);
    }
    int classes = 1 + KeptTables.class.getDeclaredClasses().length;
    CHECKS.due("more than twelve classes", classes > 12 ? 1 : 0, 0);
    for (Class<?> inside : KeptTables.class.getDeclaredClasses()) {
      CHECKS.due(inside + " is static", Modifier.isStatic(inside.getModifiers()) ? 1 : 0, 1);
      CHECKS.due(inside + " is private", Modifier.isPrivate(inside.getModifiers()) ? 1 : 0, 1);
      for (Field field : inside.getDeclaredFields()) {
        CHECKS.due(field + " is not static", Modifier.isStatic(field.getModifiers()) ? 1 : 0, 0);
      }
    }
  }

  private static void namesOfOwnMethods() {
    TreeSet<String> taken = new TreeSet<>();
    for (Method method : KeptTables.class.getDeclaredMethods()) {
      if (Modifier.isPublic(method.getModifiers())) {
        taken.add(method.getName());
      }
    }
    TreeSet<String> twice = new TreeSet<>();
    for (Method method : KeptTables.class.getDeclaredMethods()) {
      if (!Modifier.isPublic(method.getModifiers()) && taken.contains(method.getName())) {
        twice.add(method.getName());
      }
    }
    for (Class<?> inside : KeptTables.class.getDeclaredClasses()) {
      for (Method method : inside.getDeclaredMethods()) {
        if (taken.contains(method.getName())) {
          twice.add(method.getName());
        }
      }
    }
    CHECKS.due("names of the face that others bear", twice.toString(), "[]");
  }

  private static void text() throws IOException {
    String text = Files.readString(Path.of("src/main/java/KeptTables.java"));
    String code = text.replaceAll("(?s)/\\*.*?\\*/", "").replaceAll("//[^\n]*", "");
    for (String pattern : RULED_OUT) {
      boolean found = Pattern.compile(pattern).matcher(code).find();
      CHECKS.due(pattern + " in the code", found ? 1 : 0, 0);
    }
  }
}
