import java.lang.reflect.InvocationTargetException;
import java.lang.reflect.Method;
import java.lang.reflect.Modifier;
import java.util.Arrays;
import java.util.Comparator;

/**
 * Each call of the face with corner arguments at every position, all with all, in three states:
 * none throws, and each answers what the plain model does, the order of refusals included.
 */
public final class CornersTest {
  private static final int[] CORNERS = {
    Integer.MIN_VALUE, -2, -1, 0, 1, 2, 3, 4, 5, 7, 8, 15, 16, 60, 61, Integer.MAX_VALUE
  };
  private static final long[] VALUES = {Long.MIN_VALUE, 0L, -3L};
  /** What is told to a new object, these calls and a look at a table are fewer than 512. */
  private static final int CALLS_OF_AN_OBJECT = 75;
  /** A prime: steps this wide go through all arguments, neighbours in time unlike each other. */
  private static final int STRIDE = 7919;
  private static final String[] STATES = {"nothing", "some", "full"};

  private final Checks checks = new Checks("CornersTest");
  private KeptTables x = new KeptTables();
  private PlainModel model = new PlainModel();
  private int batches = 0;

  public static void main(String[] args) {
    CornersTest test = new CornersTest();
    Method[] face = KeptTables.class.getDeclaredMethods();
    Arrays.sort(face, Comparator.comparing(Method::getName));
    for (String state : STATES) {
      for (Method method : face) {
        if (Modifier.isPublic(method.getModifiers())) {
          test.sweep(state, method);
        }
      }
    }
    test.checks.end();
  }

  private void sweep(String state, Method method) {
    Class<?>[] types = method.getParameterTypes();
    int all = 1;
    for (Class<?> type : types) {
      all *= width(type);
    }
    for (int i = 0; i < all; i++) {
      if (i % CALLS_OF_AN_OBJECT == 0) {
        begin(state);
      }
      int chosen = (int) ((long) i * STRIDE % all);
      both(state, method.getName(), types, arguments(types, chosen));
      if (i % CALLS_OF_AN_OBJECT == CALLS_OF_AN_OBJECT - 1 || i == all - 1) {
        look(state, method.getName());
      }
    }
  }

  private static int width(Class<?> type) {
    if (type == int.class) {
      return CORNERS.length;
    }
    return type == long.class ? VALUES.length : 2;
  }

  private static Object[] arguments(Class<?>[] types, int chosen) {
    Object[] made = new Object[types.length];
    int left = chosen;
    for (int i = 0; i < types.length; i++) {
      int k = left % width(types[i]);
      left /= width(types[i]);
      if (types[i] == int.class) {
        made[i] = CORNERS[k];
      } else if (types[i] == long.class) {
        made[i] = VALUES[k];
      } else {
        made[i] = k == 1;
      }
    }
    return made;
  }

  private void both(String state, String name, Class<?>[] types, Object... arguments) {
    String got = answer(KeptTables.class, x, name, types, arguments);
    String want = answer(PlainModel.class, model, name, types, arguments);
    checks.due(state + ": " + name + Arrays.toString(arguments), got, want);
  }

  private static String answer(
      Class<?> of, Object object, String name, Class<?>[] types, Object[] arguments) {
    try {
      return String.valueOf(of.getDeclaredMethod(name, types).invoke(object, arguments));
    } catch (InvocationTargetException thrown) {
      return "thrown: " + thrown.getCause();
    } catch (ReflectiveOperationException missing) {
      return "not there: " + missing;
    }
  }

  /** One table, another one each time, as a refusal may have changed any of them. */
  private void look(String state, String name) {
    int t = batches++ % 8;
    String what = state + ", behind " + name + ": table " + t;
    checks.due(what, x.count(t, 2), model.count(t, 2));
    for (int k = 0; k < model.count(t, 2); k++) {
      int place = model.place(t, k);
      checks.due(what + ", place " + k, x.place(t, k), place);
      checks.due(what + ", at", x.at(t, place / 16, place % 16),
          model.at(t, place / 16, place % 16));
    }
    for (int i = 0; i < 17; i++) {
      checks.due(what + ", listed " + i, x.listed(i), model.listed(i));
    }
  }

  // ---- the states

  private void begin(String state) {
    x = new KeptTables();
    model = new PlainModel();
    if (state.equals("some")) {
      someTables();
    } else if (state.equals("full")) {
      fullTables();
    }
  }

  private void table(int t, int rows, int columns) {
    x.table(t, rows, columns);
    model.table(t, rows, columns);
  }

  private void triple(int r, int c, long v) {
    x.triple(r, c, v);
    model.triple(r, c, v);
  }

  private void list(int v) {
    x.list(v);
    model.list(v);
  }

  private void join(int t) {
    x.join(t);
    model.join(t);
  }

  /** Graphs, tables that are none, one that is empty; 5 is not there; the list orders 3 nodes. */
  private void someTables() {
    int[][] sizes = {{3, 3}, {3, 2}, {2, 3}, {1, 1}, {5, 5}, {}, {3, 3}, {8, 8}};
    for (int t = 0; t < sizes.length; t++) {
      if (sizes[t].length == 0) {
        continue;
      }
      int rows = sizes[t][0];
      int columns = sizes[t][1];
      table(t, rows, columns);
      for (int i = 0; i < rows + columns && t != 6; i++) {
        triple(i * 3 % rows, (i * 2 + t) % columns, i - 2);
      }
      join(t);
    }
    triple(1, 1, 4L);
    triple(2, 0, 0L);
    list(1);
    list(2);
    list(0);
  }

  /** Two tables with 128 places and small ones; no room for a triple or a number more. */
  private void fullTables() {
    table(0, 16, 16);
    for (int t = 1; t < 7; t++) {
      table(t, 2 + t % 2, 2 + t % 2);
      triple(0, 1, t);
      triple(1, 1, -t);
      join(t);
    }
    fillHalf(0);
    x.turn(0, 7);
    model.turn(0, 7);
    for (int i = 0; i < 64; i++) {
      triple(i % 16, 15, i);
    }
    for (int i = 0; i < 16; i++) {
      list(15 - i);
    }
  }

  /** Keeps rows 0 .. 7 of a table of 16 x 16. */
  private void fillHalf(int t) {
    for (int r = 0; r < 2; r++) {
      for (int c = 0; c < 16; c++) {
        triple(r, c, r * c - 5);
      }
    }
    join(t);
    for (int i = 0; i < 16; i++) {
      list(i < 8 ? i % 2 : 2);
    }
    x.rows(t, t);
    model.rows(t, t);
  }
}
