import java.util.Arrays;

/** Counts and prints the calls whose answer is not the one that is due. */
final class Checks {
  private final String name;
  private int made = 0;
  private int wrong = 0;

  Checks(String name) {
    this.name = name;
  }

  void due(String call, long got, long want) {
    made++;
    if (got != want) {
      wrong++;
      System.out.println(name + ": " + call + " answered " + got + ", due is " + want);
    }
  }

  void due(String what, String got, String want) {
    made++;
    if (!got.equals(want)) {
      wrong++;
      System.out.println(name + ": " + what + " is " + got + ", due is " + want);
    }
  }

  void dueList(String what, KeptTables x, int... want) {
    int[] got = new int[16];
    int n = 0;
    while (n < 16 && x.listed(n) != -2) {
      got[n] = x.listed(n);
      n++;
    }
    due(what, Arrays.toString(Arrays.copyOf(got, n)), Arrays.toString(want));
  }

  /** All kept places of a table in their order, each as "r,c=value". */
  void dueTable(String what, KeptTables x, int t, String want) {
    due(what, shown(x, t), want);
  }

  static String shown(KeptTables x, int t) {
    StringBuilder text = new StringBuilder();
    text.append(x.count(t, 0)).append('x').append(x.count(t, 1)).append(':');
    for (int k = 0; k < x.count(t, 2); k++) {
      int place = x.place(t, k);
      long value = x.at(t, place / 16, place % 16);
      text.append(' ').append(place / 16).append(',').append(place % 16).append('=').append(value);
    }
    return text.toString();
  }

  /** A table made of rows r, c, v one behind the other. */
  static void make(KeptTables x, int t, int rows, int columns, long... triples) {
    x.table(t, rows, columns);
    for (int i = 0; i + 2 < triples.length; i += 3) {
      x.triple((int) triples[i], (int) triples[i + 1], triples[i + 2]);
    }
    x.join(t);
  }

  /** Keeps all places of some rows of a table with 16 columns, each with the value v. */
  static void fillRows(KeptTables x, int t, int from, int to, long v) {
    for (int r = from; r < to; r++) {
      for (int c = 0; c < 16; c++) {
        x.triple(r, c, v);
      }
      x.join(t);
    }
  }

  void end() {
    System.out.println(name + ": " + made + " answers, " + wrong + " not as due");
    if (wrong != 0) {
      System.exit(1);
    }
  }
}
