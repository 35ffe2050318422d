/** Promises 1 to 12: a new object, and the places of a table. */
public final class PlacesTest {
  private static final Checks CHECKS = new Checks("PlacesTest");

  public static void main(String[] args) {
    newObject();
    table();
    triple();
    list();
    join();
    joinRefused();
    count();
    at();
    keptAndPlace();
    set();
    prune();
    CHECKS.end();
  }

  private static void due(String call, long got, long want) {
    CHECKS.due(call, got, want);
  }

  private static void newObject() {
    KeptTables x = new KeptTables();
    for (int t = 0; t < 8; t++) {
      due("1 count(t, 0)", x.count(t, 0), -1);
    }
    due("1 listed(0)", x.listed(0), -2);
    x.table(0, 1, 1);
    due("1 count(0, 4)", x.count(0, 4), 0);
    due("1 count(0, 5)", x.count(0, 5), 0);
  }

  private static void table() {
    KeptTables x = new KeptTables();
    due("2 table(-1)", x.table(-1, 1, 1), -1);
    due("2 table(8)", x.table(8, 1, 1), -1);
    due("2 table(-1, 0, 0): the first that fits", x.table(-1, 0, 0), -1);
    due("2 table(0, 0, 1)", x.table(0, 0, 1), -2);
    due("2 table(0, 17, 1)", x.table(0, 17, 1), -2);
    due("2 table(0, 1, 0)", x.table(0, 1, 0), -2);
    due("2 table(0, 1, 17)", x.table(0, 1, 17), -2);
    due("2 nothing was made", x.count(0, 0), -1);
    due("2 table(0, 1, 16)", x.table(0, 1, 16), 1);
    due("2 table(7, 16, 1)", x.table(7, 16, 1), 1);
    CHECKS.dueTable("2 table 0", x, 0, "1x16:");
    CHECKS.dueTable("2 table 7", x, 7, "16x1:");
    Checks.make(x, 0, 2, 2, 1, 1, 5);
    due("2 table(0, 2, 17)", x.table(0, 2, 17), -2);
    CHECKS.dueTable("2 a refused table leaves the old one", x, 0, "2x2: 1,1=5");
    due("2 table(0, 3, 3)", x.table(0, 3, 3), 1);
    CHECKS.dueTable("2 a table in place of another", x, 0, "3x3:");
    due("2 at(0, 1, 1)", x.at(0, 1, 1), 0);
  }

  private static void triple() {
    KeptTables x = new KeptTables();
    x.table(0, 16, 16);
    due("3 triple(-1, 0)", x.triple(-1, 0, 1L), -2);
    due("3 triple(16, 0)", x.triple(16, 0, 1L), -2);
    due("3 triple(0, -1)", x.triple(0, -1, 1L), -2);
    due("3 triple(0, 16)", x.triple(0, 16, 1L), -2);
    for (int i = 1; i <= 64; i++) {
      due("3 triple(15, 15)", x.triple(15, 15, 1L), i);
    }
    due("3 triple, the 65th", x.triple(0, 0, 1L), -4);
    due("3 triple(16, 0), the first that fits", x.triple(16, 0, 1L), -2);
    due("3 count(0, 4)", x.count(0, 4), 64);
    due("3 join(0)", x.join(0), 1);
    due("3 at(0, 15, 15)", x.at(0, 15, 15), 64);
    due("3 triple after join", x.triple(0, 0, 1L), 1);
  }

  private static void list() {
    KeptTables x = new KeptTables();
    x.table(0, 1, 1);
    due("4 list(-1)", x.list(-1), -2);
    due("4 list(16)", x.list(16), -2);
    for (int i = 0; i < 16; i++) {
      due("5 listed(i), not yet there", x.listed(i), -2);
      due("4 list(15 - i)", x.list(15 - i), i + 1);
    }
    due("4 list, the 17th", x.list(0), -4);
    due("4 list(16), the first that fits", x.list(16), -2);
    for (int i = 0; i < 16; i++) {
      due("5 listed(i)", x.listed(i), 15 - i);
    }
    due("5 listed(-1)", x.listed(-1), -2);
    due("5 listed(16)", x.listed(16), -2);
    due("5 the list stays", x.count(0, 5), 16);
  }

  private static void join() {
    KeptTables x = new KeptTables();
    Checks.make(x, 0, 3, 4, 2, 3, 5, 0, 1, 7, 2, 3, -5, 1, 0, Long.MAX_VALUE);
    CHECKS.dueTable("6 join", x, 0, "3x4: 0,1=7 1,0=" + Long.MAX_VALUE + " 2,3=0");
    due("6 the triples are empty", x.count(0, 4), 0);
    due("6 join of nothing", x.join(0), 3);
    x.triple(1, 0, 1L);
    x.triple(0, 0, 0L);
    due("6 join once more", x.join(0), 4);
    CHECKS.dueTable("6 values wrap", x, 0, "3x4: 0,0=0 0,1=7 1,0=" + Long.MIN_VALUE + " 2,3=0");
  }

  private static void joinRefused() {
    KeptTables x = new KeptTables();
    Checks.make(x, 0, 3, 4, 0, 0, 1);
    x.triple(2, 3, 5L);
    due("6 join(1)", x.join(1), -1);
    due("6 join(-1)", x.join(-1), -1);
    due("6 join(8)", x.join(8), -1);
    due("6 -1 leaves the triples", x.count(0, 4), 1);
    x.triple(3, 0, 5L);
    due("6 a row outside", x.join(0), -3);
    due("6 -3 empties the triples", x.count(0, 4), 0);
    x.triple(0, 4, 5L);
    due("6 a column outside", x.join(0), -3);
    CHECKS.dueTable("6 -3 leaves the table", x, 0, "3x4: 0,0=1");
    x.table(1, 16, 16);
    Checks.fillRows(x, 1, 0, 8, 1L);
    due("6 count(1, 2)", x.count(1, 2), 128);
    x.triple(0, 0, 1L);
    x.triple(8, 0, 1L);
    due("6 the 129th", x.join(1), -4);
    due("6 -4 empties the triples", x.count(1, 4), 0);
    due("6 -4 leaves the places", x.count(1, 2), 128);
    due("6 -4 leaves the values", x.at(1, 0, 0), 1);
    x.triple(0, 0, 1L);
    due("6 a full table takes kept places", x.join(1), 128);
    due("6 at(1, 0, 0)", x.at(1, 0, 0), 2);
  }

  private static void count() {
    KeptTables x = new KeptTables();
    due("7 count(0, 4), no table", x.count(0, 4), -1);
    due("7 count(0, 5), no table", x.count(0, 5), -1);
    due("7 count(0, 6), the first that fits", x.count(0, 6), -1);
    due("7 count(-1, 0)", x.count(-1, 0), -1);
    due("7 count(8, 0)", x.count(8, 0), -1);
    Checks.make(x, 3, 5, 6, 0, 0, 0, 1, 1, 1, 2, 2, 0);
    x.triple(0, 0, 1L);
    x.list(1);
    x.list(1);
    int[] want = {5, 6, 3, 2, 1, 2};
    for (int what = 0; what < 6; what++) {
      due("7 count(3, what)", x.count(3, what), want[what]);
    }
    due("7 count(3, -1)", x.count(3, -1), -2);
    due("7 count(3, 6)", x.count(3, 6), -2);
  }

  private static void at() {
    KeptTables x = new KeptTables();
    due("8 at, no table", x.at(0, 0, 0), 0);
    Checks.make(x, 0, 2, 3, 1, 2, -9);
    due("8 at(0, 1, 2)", x.at(0, 1, 2), -9);
    due("8 at(0, 0, 0), not kept", x.at(0, 0, 0), 0);
    due("8 at(0, -1, 2)", x.at(0, -1, 2), 0);
    due("8 at(0, 2, 2)", x.at(0, 2, 2), 0);
    due("8 at(0, 1, 3)", x.at(0, 1, 3), 0);
    due("8 at(0, 0, 18)", x.at(0, 0, 18), 0);
    due("8 at(0, 2, -14)", x.at(0, 2, -14), 0);
    due("8 at(8, 1, 2)", x.at(8, 1, 2), 0);
    due("8 at(-1, 1, 2)", x.at(-1, 1, 2), 0);
  }

  private static void keptAndPlace() {
    KeptTables x = new KeptTables();
    due("9 kept, no table", x.kept(0, 99, 0), -1);
    due("10 place, no table", x.place(0, -1), -1);
    Checks.make(x, 0, 16, 16, 15, 15, 1, 0, 15, 2, 0, 0, 0, 15, 0, 3, 7, 8, 4);
    int[] places = {0, 15, 7 * 16 + 8, 15 * 16, 15 * 16 + 15};
    for (int k = 0; k < places.length; k++) {
      due("9 kept", x.kept(0, places[k] / 16, places[k] % 16), k);
      due("10 place(0, k)", x.place(0, k), places[k]);
    }
    due("9 kept(0, 0, 1)", x.kept(0, 0, 1), -3);
    due("10 place(0, -1)", x.place(0, -1), -2);
    due("10 place(0, 5)", x.place(0, 5), -2);
    Checks.make(x, 1, 2, 3, 0, 2, 1);
    due("9 kept(1, 2, 0)", x.kept(1, 2, 0), -2);
    due("9 kept(1, 0, 3)", x.kept(1, 0, 3), -2);
    due("9 kept(1, -1, 0)", x.kept(1, -1, 0), -2);
    due("9 kept(1, 0, -1)", x.kept(1, 0, -1), -2);
    due("9 kept(1, 1, 2)", x.kept(1, 1, 2), -3);
  }

  private static void set() {
    KeptTables x = new KeptTables();
    due("11 set, no table", x.set(0, 99, 0, 1L), -1);
    Checks.make(x, 0, 2, 3, 0, 2, 1);
    due("11 set(0, 0, 2)", x.set(0, 0, 2, Long.MIN_VALUE), 1);
    due("11 at(0, 0, 2)", x.at(0, 0, 2), Long.MIN_VALUE);
    due("11 set(0, 2, 0)", x.set(0, 2, 0, 1L), -2);
    due("11 set(0, 0, 3)", x.set(0, 0, 3, 1L), -2);
    due("11 set(0, -1, 0)", x.set(0, -1, 0, 1L), -2);
    due("11 set(0, 0, -1)", x.set(0, 0, -1, 1L), -2);
    due("11 set(0, 1, 1)", x.set(0, 1, 1, 1L), -3);
    due("11 set(0, 0, 2, 0)", x.set(0, 0, 2, 0L), 1);
    CHECKS.dueTable("11 a place with 0 is still kept", x, 0, "2x3: 0,2=0");
  }

  private static void prune() {
    KeptTables x = new KeptTables();
    due("12 prune, no table", x.prune(0), -1);
    due("12 prune(8)", x.prune(8), -1);
    Checks.make(x, 0, 3, 3, 0, 0, 0, 1, 1, 4, 2, 0, 0, 2, 2, -1);
    due("12 prune(0)", x.prune(0), 2);
    CHECKS.dueTable("12 what is left", x, 0, "3x3: 1,1=4 2,2=-1");
    due("12 prune(0) again", x.prune(0), 0);
  }
}
