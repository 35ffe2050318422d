/** Promises 13 to 20: tables of tables. */
public final class TablesTest {
  private static final Checks CHECKS = new Checks("TablesTest");

  public static void main(String[] args) {
    noSuchTable();
    add();
    times();
    each();
    mask();
    turn();
    rows();
    rowsRefused();
    slopes();
    slopesRefused();
    sum();
    CHECKS.end();
  }

  private static void due(String call, long got, long want) {
    CHECKS.due(call, got, want);
  }

  /** Wrong slots come ahead of sizes that do not fit. */
  private static void noSuchTable() {
    KeptTables x = new KeptTables();
    x.table(0, 2, 3);
    x.list(15);
    int[][] wrong = {{1, 0, 2}, {0, 1, 2}, {0, 0, 8}, {0, 0, -1}, {-1, 0, 2}, {0, 8, 2}};
    for (int[] w : wrong) {
      due("13 add", x.add(w[0], w[1], w[2], 1L, 1L), -1);
      due("14 times", x.times(w[0], w[1], w[2]), -1);
      due("15 each", x.each(w[0], w[1], w[2]), -1);
      due("16 mask", x.mask(w[0], w[1], w[2], true), -1);
      due("19 slopes", x.slopes(w[0], w[1], 0, w[2], true), -1);
    }
    due("19 slopes, no c", x.slopes(0, 0, 1, 2, true), -1);
    due("17 turn(1, 2)", x.turn(1, 2), -1);
    due("17 turn(0, 8)", x.turn(0, 8), -1);
    due("17 turn(0, -1)", x.turn(0, -1), -1);
    due("18 rows(1, 2)", x.rows(1, 2), -1);
    due("18 rows(0, 8)", x.rows(0, 8), -1);
    due("18 rows(0, -1)", x.rows(0, -1), -1);
    due("18 -1 leaves the list", x.count(0, 5), 1);
    due("20 sum, no table", x.sum(1, true, 0), 0);
  }

  private static void add() {
    KeptTables x = new KeptTables();
    Checks.make(x, 0, 2, 3, 0, 0, 3, 1, 2, 4, 0, 1, 2);
    Checks.make(x, 1, 2, 3, 0, 0, -6, 1, 0, 5);
    due("13 add(0, 1, 2, 2, 1)", x.add(0, 1, 2, 2L, 1L), 4);
    CHECKS.dueTable("13 add", x, 2, "2x3: 0,0=0 0,1=4 1,0=5 1,2=8");
    due("13 add with 0", x.add(0, 1, 2, 0L, 0L), 4);
    CHECKS.dueTable("13 places stay kept", x, 2, "2x3: 0,0=0 0,1=0 1,0=0 1,2=0");
    due("13 add(0, 0, 0)", x.add(0, 0, 0, 1L, 10L), 3);
    CHECKS.dueTable("13 into itself", x, 0, "2x3: 0,0=33 0,1=22 1,2=44");
    due("13 add(0, 1, 1)", x.add(0, 1, 1, -1L, Long.MAX_VALUE), 4);
    due("13 into b, wrapping", x.at(1, 0, 0), Long.MAX_VALUE * -6L - 33L);
    due("13 into b, kept in a alone", x.at(1, 1, 2), -44);
    due("13 into b, kept in b alone", x.at(1, 1, 0), Long.MAX_VALUE * 5L);
    x.table(3, 3, 2);
    x.table(4, 2, 2);
    due("13 other sizes", x.add(0, 3, 2, 1L, 1L), -3);
    due("13 other columns", x.add(0, 4, 0, 1L, 1L), -3);
    CHECKS.dueTable("13 -3 changes nothing", x, 0, "2x3: 0,0=33 0,1=22 1,2=44");
    addBeyondRoom();
  }

  private static void addBeyondRoom() {
    KeptTables x = new KeptTables();
    x.table(0, 16, 16);
    Checks.fillRows(x, 0, 0, 8, 2L);
    x.table(1, 16, 16);
    Checks.fillRows(x, 1, 7, 8, 3L);
    due("13 128 in all", x.add(0, 1, 2, 1L, 1L), 128);
    due("13 at(2, 7, 0)", x.at(2, 7, 0), 5);
    x.triple(8, 0, 1L);
    x.join(1);
    due("13 129 in all", x.add(0, 1, 0, 5L, 1L), -4);
    due("13 -4 changes nothing", x.at(0, 7, 0), 2);
    due("13 -4 keeps the places", x.count(0, 2), 128);
    x.table(3, 2, 2);
    due("13 -3 ahead of -4", x.add(0, 3, 4, 1L, 1L), -3);
    due("13 -4 makes no table", x.add(0, 1, 5, 1L, 1L), -4);
    due("13 count(5, 0)", x.count(5, 0), -1);
  }

  private static void times() {
    KeptTables x = new KeptTables();
    Checks.make(x, 0, 2, 3, 0, 0, 2, 0, 2, 3, 1, 1, 5);
    Checks.make(x, 1, 3, 4, 0, 3, 3, 2, 3, -2, 2, 0, 7, 1, 2, 0);
    due("14 times(0, 1, 2)", x.times(0, 1, 2), 3);
    CHECKS.dueTable("14 times", x, 2, "2x4: 0,0=21 0,3=0 1,2=0");
    due("14 times(0, 1, 0)", x.times(0, 1, 0), 3);
    CHECKS.dueTable("14 into a", x, 0, "2x4: 0,0=21 0,3=0 1,2=0");
    due("14 columns of a, rows of b", x.times(1, 0, 1), -3);
    CHECKS.dueTable("14 -3 changes nothing", x, 1, "3x4: 0,3=3 1,2=0 2,0=7 2,3=-2");
    Checks.make(x, 3, 2, 2, 0, 1, Long.MAX_VALUE, 1, 0, 2);
    due("14 times(3, 3, 3)", x.times(3, 3, 3), 2);
    CHECKS.dueTable("14 by itself, wrapping", x, 3, "2x2: 0,0=-2 1,1=-2");
    timesBeyondRoom();
  }

  private static void timesBeyondRoom() {
    KeptTables x = new KeptTables();
    x.table(0, 16, 1);
    x.table(1, 1, 16);
    for (int i = 0; i < 8; i++) {
      x.triple(2 * i, 0, i);
    }
    x.join(0);
    Checks.fillRows(x, 1, 0, 1, 2L);
    due("14 128 places", x.times(0, 1, 2), 128);
    x.triple(15, 0, 1L);
    x.join(0);
    due("14 144 places", x.times(0, 1, 2), -4);
    due("14 -4 changes nothing", x.at(2, 14, 15), 14);
    due("14 1 x 1", x.times(1, 0, 2), 1);
    due("14 at(2, 0, 0)", x.at(2, 0, 0), 2 * (28 + 1));
  }

  private static void each() {
    KeptTables x = new KeptTables();
    Checks.make(x, 0, 2, 3, 0, 0, 3, 1, 2, 4, 0, 1, 2);
    Checks.make(x, 1, 2, 3, 0, 0, -6, 1, 0, 5, 1, 2, 0);
    due("15 each(0, 1, 2)", x.each(0, 1, 2), 2);
    CHECKS.dueTable("15 each", x, 2, "2x3: 0,0=-18 1,2=0");
    due("15 each(0, 0, 0)", x.each(0, 0, 0), 3);
    CHECKS.dueTable("15 into itself", x, 0, "2x3: 0,0=9 0,1=4 1,2=16");
    x.table(3, 3, 3);
    x.table(4, 2, 2);
    due("15 other rows", x.each(0, 3, 2), -3);
    due("15 other columns", x.each(0, 4, 2), -3);
    CHECKS.dueTable("15 -3 changes nothing", x, 2, "2x3: 0,0=-18 1,2=0");
  }

  private static void mask() {
    KeptTables x = new KeptTables();
    Checks.make(x, 0, 2, 3, 0, 0, 3, 1, 2, 4, 0, 1, 0);
    Checks.make(x, 1, 2, 3, 0, 0, -6, 1, 0, 5, 0, 1, 0);
    due("16 mask in", x.mask(0, 1, 2, true), 2);
    CHECKS.dueTable("16 in", x, 2, "2x3: 0,0=3 0,1=0");
    due("16 mask out", x.mask(0, 1, 2, false), 1);
    CHECKS.dueTable("16 out", x, 2, "2x3: 1,2=4");
    due("16 mask into b", x.mask(0, 1, 1, false), 1);
    CHECKS.dueTable("16 into b", x, 1, "2x3: 1,2=4");
    due("16 by itself", x.mask(0, 0, 0, false), 0);
    CHECKS.dueTable("16 nothing is left", x, 0, "2x3:");
    x.table(3, 3, 3);
    x.table(4, 2, 2);
    due("16 other rows", x.mask(1, 3, 2, true), -3);
    due("16 other columns", x.mask(1, 4, 2, false), -3);
    CHECKS.dueTable("16 -3 changes nothing", x, 2, "2x3: 1,2=4");
  }

  private static void turn() {
    KeptTables x = new KeptTables();
    Checks.make(x, 0, 2, 4, 0, 3, 3, 1, 2, 0, 1, 0, 7);
    due("17 turn(0, 1)", x.turn(0, 1), 3);
    CHECKS.dueTable("17 turn", x, 1, "4x2: 0,1=7 2,1=0 3,0=3");
    due("17 turn(0, 0)", x.turn(0, 0), 3);
    CHECKS.dueTable("17 into itself", x, 0, "4x2: 0,1=7 2,1=0 3,0=3");
  }

  private static void rows() {
    KeptTables x = new KeptTables();
    Checks.make(x, 0, 3, 4, 0, 3, 3, 2, 2, 0, 2, 0, 7);
    x.list(2);
    x.list(1);
    x.list(2);
    x.list(0);
    due("18 rows(0, 1)", x.rows(0, 1), 5);
    CHECKS.dueTable("18 rows", x, 1, "4x4: 0,0=7 0,2=0 2,0=7 2,2=0 3,3=3");
    due("18 the list is empty", x.count(0, 5), 0);
    x.list(2);
    due("18 rows(0, 0)", x.rows(0, 0), 2);
    CHECKS.dueTable("18 into itself", x, 0, "1x4: 0,0=7 0,2=0");
  }

  private static void rowsRefused() {
    KeptTables x = new KeptTables();
    x.table(0, 3, 16);
    due("18 an empty list", x.rows(0, 1), -3);
    x.list(0);
    x.list(3);
    due("18 no such row", x.rows(0, 1), -3);
    due("18 -3 empties the list", x.count(0, 5), 0);
    due("18 no table is made", x.count(1, 0), -1);
    Checks.fillRows(x, 0, 1, 2, 5L);
    for (int i = 0; i < 8; i++) {
      x.list(1);
    }
    due("18 128 places", x.rows(0, 1), 128);
    for (int i = 0; i < 9; i++) {
      x.list(1);
    }
    due("18 144 places", x.rows(0, 1), -4);
    due("18 -4 empties the list", x.count(0, 5), 0);
    due("18 -4 changes nothing", x.count(1, 0), 8);
    for (int i = 0; i < 15; i++) {
      x.list(1);
    }
    x.list(15);
    due("18 -3 ahead of -4", x.rows(0, 1), -3);
  }

  private static void slopes() {
    KeptTables x = new KeptTables();
    Checks.make(x, 0, 2, 3, 0, 0, 2, 0, 2, 0, 1, 1, 5);
    Checks.make(x, 1, 3, 2, 0, 0, 3, 0, 1, 4, 1, 0, 7, 2, 1, -1);
    Checks.make(x, 2, 2, 2, 0, 0, 10, 0, 1, 100, 1, 1, 1000);
    due("19 slopes by a", x.slopes(0, 1, 2, 3, true), 3);
    CHECKS.dueTable("19 by a", x, 3, "2x3: 0,0=430 0,2=-100 1,1=0");
    due("19 slopes by b", x.slopes(0, 1, 2, 3, false), 4);
    CHECKS.dueTable("19 by b", x, 3, "3x2: 0,0=20 0,1=200 1,0=0 2,1=0");
    due("19 slopes into c", x.slopes(0, 1, 2, 2, true), 3);
    CHECKS.dueTable("19 into c", x, 2, "2x3: 0,0=430 0,2=-100 1,1=0");
  }

  private static void slopesRefused() {
    KeptTables x = new KeptTables();
    x.table(0, 2, 3);
    x.table(1, 3, 4);
    x.table(2, 2, 4);
    x.table(3, 4, 4);
    x.table(4, 2, 3);
    x.table(5, 3, 4);
    due("19 sizes that fit", x.slopes(0, 1, 2, 6, true), 0);
    due("19 count(6, 1)", x.count(6, 1), 3);
    due("19 a with b", x.slopes(0, 3, 2, 6, false), -3);
    due("19 columns of c", x.slopes(0, 1, 4, 6, false), -3);
    due("19 rows of c", x.slopes(0, 1, 5, 6, true), -3);
    due("19 -3 changes nothing", x.count(6, 1), 3);
    due("19 sizes by b", x.slopes(0, 1, 2, 6, false), 0);
    due("19 count(6, 1) by b", x.count(6, 1), 4);
  }

  private static void sum() {
    KeptTables x = new KeptTables();
    Checks.make(x, 0, 2, 3, 0, 0, Long.MAX_VALUE, 0, 1, 1, 1, 0, 3, 1, 2, 4);
    due("20 row 0", x.sum(0, true, 0), Long.MIN_VALUE);
    due("20 row 1", x.sum(0, true, 1), 7);
    due("20 row 2", x.sum(0, true, 2), 0);
    due("20 row -1", x.sum(0, true, -1), 0);
    due("20 column 0", x.sum(0, false, 0), Long.MAX_VALUE + 3L);
    due("20 column 1", x.sum(0, false, 1), 1);
    due("20 column 2", x.sum(0, false, 2), 4);
    due("20 column 3", x.sum(0, false, 3), 0);
    due("20 column -1", x.sum(0, false, -1), 0);
    due("20 sum(8)", x.sum(8, true, 0), 0);
  }
}
