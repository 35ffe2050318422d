/** Runs of calls that leave an object in a state worth looking at. */
final class Stories {
  /** No table is there. */
  static final int NONE = 5;

  private Stories() {}

  static void nothing(KeptTables x) {
    x.count(0, 0);
  }

  /**
   * Tables of many kinds: 0 is 2 x 3, 1 is 3 x 2, 2 is 2 x 2 and holds no 0, 3 is full, 4 keeps
   * one place that 3 does not keep, 5 is not there, 6 is a graph without rings, 7 keeps nothing.
   */
  static void crowd(KeptTables x) {
    Checks.make(x, 0, 2, 3, 0, 0, 3, 0, 2, 0, 1, 1, -4);
    Checks.make(x, 1, 3, 2, 0, 1, 5, 2, 0, 6);
    Checks.make(x, 2, 2, 2, 0, 0, 1, 0, 1, 2, 1, 0, 3, 1, 1, 4);
    fullAbove(x, 3);
    Checks.make(x, 4, 16, 16, 8, 0, 7);
    Checks.make(x, 6, 3, 3, 0, 1, 0, 1, 2, 9, 2, 2, 1);
    x.table(7, 1, 1);
    x.triple(0, 0, 9L);
    x.triple(15, 15, 8L);
    x.list(1);
    x.list(0);
    x.list(1);
  }

  /** A table of 16 x 16 that keeps rows 0 .. 7, with c + 1 at (r, c). THE LIST must be empty. */
  static void fullAbove(KeptTables x, int t) {
    x.table(t, 2, 16);
    for (int c = 0; c < 16; c++) {
      x.triple(0, c, c + 1);
    }
    x.join(t);
    for (int r = 0; r < 16; r++) {
      x.list(r / 8);
    }
    x.rows(t, t);
  }

  /** A table of 16 x 16 that keeps (r, c) where r + c is even, with c + 1 there. */
  static void everyOther(KeptTables x, int t) {
    x.table(t, 2, 16);
    for (int c = 0; c < 16; c++) {
      x.triple(c % 2, c, c + 1);
    }
    x.join(t);
    for (int r = 0; r < 16; r++) {
      x.list(r % 2);
    }
    x.rows(t, t);
  }

  /** A table all of whose places are kept, with 10 (r + 1) + c + 1 at (r, c); 64 at most. */
  static void all(KeptTables x, int t, int rows, int columns) {
    x.table(t, rows, columns);
    for (int r = 0; r < rows; r++) {
      for (int c = 0; c < columns; c++) {
        x.triple(r, c, 10 * (r + 1) + c + 1);
      }
    }
    x.join(t);
  }

  /** As many triples as there may be, all of one place outside most tables. */
  static void fullTriples(KeptTables x) {
    for (int i = 0; i < 64; i++) {
      x.triple(15, 15, i);
    }
  }

  static void listOf(KeptTables x, int... numbers) {
    for (int v : numbers) {
      x.list(v);
    }
  }

  static void listTimes(KeptTables x, int v, int times) {
    for (int i = 0; i < times; i++) {
      x.list(v);
    }
  }
}
