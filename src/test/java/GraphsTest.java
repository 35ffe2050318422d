/** Promises 24 to 29: tables as graphs. */
public final class GraphsTest {
  private static final Checks CHECKS = new Checks("GraphsTest");

  public static void main(String[] args) {
    noTableOrGraph();
    walks();
    way();
    longestWay();
    ring();
    sort();
    sortRefused();
    narrow();
    narrowOfSeveralRows();
    width();
    CHECKS.end();
  }

  private static void due(String call, long got, long want) {
    CHECKS.due(call, got, want);
  }

  private static void noTableOrGraph() {
    KeptTables x = new KeptTables();
    x.list(3);
    due("24 walks, no table", x.walks(0, 0, 0, 0), 0);
    due("25 way, no table", x.way(0, 99, 0), -1);
    due("26 ring, no table", x.ring(0, 99), -1);
    due("27 sort, no table", x.sort(0), -1);
    due("28 narrow, no table", x.narrow(0), -1);
    due("29 width, no table", x.width(0), -1);
    due("29 width(8)", x.width(8), -1);
    Checks.make(x, 0, 2, 3, 0, 0, 1, 0, 1, 1);
    due("24 walks, no graph", x.walks(0, 0, 0, 0), 0);
    due("25 way, no graph", x.way(0, 0, 0), -3);
    due("25 way, a is no row", x.way(0, 2, 0), -2);
    due("25 way, b is no row", x.way(0, 0, 2), -2);
    due("26 ring, no graph", x.ring(0, 0), -3);
    due("26 rings, no graph", x.ring(0, -1), -3);
    due("26 ring, a is no row", x.ring(0, 2), -2);
    due("26 ring(0, -2)", x.ring(0, -2), -2);
    due("27 sort, no graph", x.sort(0), -3);
    due("28 narrow, no graph", x.narrow(0), -3);
    due("29 width, no graph", x.width(0), -3);
    CHECKS.dueList("27, 28, 29 the list stays", x, 3);
  }

  private static void walks() {
    KeptTables x = new KeptTables();
    Checks.make(x, 0, 3, 3, 0, 1, 2, 1, 0, 3, 0, 2, 5, 2, 0, 7, 1, 1, 0);
    due("24 no steps, to itself", x.walks(0, 1, 1, 0), 1);
    due("24 no steps, elsewhere", x.walks(0, 1, 0, 0), 0);
    due("24 one step", x.walks(0, 0, 1, 1), 2);
    due("24 one step back", x.walks(0, 1, 0, 1), 3);
    due("24 two steps", x.walks(0, 0, 0, 2), 41);
    due("24 two steps", x.walks(0, 1, 2, 2), 15);
    due("24 four steps", x.walks(0, 0, 0, 4), 41L * 41L);
    due("24 a outside", x.walks(0, 3, 0, 1), 0);
    due("24 a outside", x.walks(0, -1, 0, 1), 0);
    due("24 b outside", x.walks(0, 0, 3, 1), 0);
    due("24 b outside", x.walks(0, 0, -1, 1), 0);
    Checks.make(x, 1, 1, 1, 0, 0, 3);
    long power = 1L;
    for (int n = 0; n <= 60; n++) {
      due("24 walks(1, 0, 0, n), wrapping", x.walks(1, 0, 0, n), power);
      power *= 3L;
    }
    due("24 61 steps", x.walks(1, 0, 0, 61), 0);
    due("24 -1 steps", x.walks(1, 0, 0, -1), 0);
  }

  private static void way() {
    KeptTables x = new KeptTables();
    Checks.make(x, 0, 5, 5, 0, 1, 0, 1, 2, 1, 2, 3, 1, 0, 3, 1, 3, 4, 1, 2, 2, 1);
    due("25 to itself", x.way(0, 1, 1), 0);
    due("25 an arc with value 0", x.way(0, 0, 1), 1);
    due("25 two arcs", x.way(0, 0, 2), 2);
    due("25 the shorter one", x.way(0, 0, 4), 2);
    due("25 the longer one", x.way(0, 1, 4), 3);
    due("25 none", x.way(0, 4, 0), -3);
    due("25 a outside", x.way(0, 5, 0), -2);
    due("25 a outside", x.way(0, -1, 0), -2);
    due("25 b outside", x.way(0, 0, 5), -2);
    due("25 b outside", x.way(0, 0, -1), -2);
  }

  private static void longestWay() {
    KeptTables x = new KeptTables();
    x.table(0, 16, 16);
    for (int i = 0; i < 15; i++) {
      x.triple(i, i + 1, 1L);
    }
    x.join(0);
    due("25 fifteen arcs", x.way(0, 0, 15), 15);
    due("25 none back", x.way(0, 15, 0), -3);
  }

  private static void ring() {
    KeptTables x = new KeptTables();
    // Rings: 0 and 4; 1; 2, 3 and 5; 6, although an arc leads from it to itself.
    Checks.make(x, 0, 7, 7,
        0, 4, 1, 4, 0, 0, 0, 1, 1, 1, 2, 1, 2, 5, 1, 5, 3, 1, 3, 2, 1, 6, 6, 1);
    int[] want = {0, 1, 2, 2, 0, 2, 3};
    for (int node = 0; node < 7; node++) {
      due("26 ring(0, node)", x.ring(0, node), want[node]);
    }
    due("26 how many", x.ring(0, -1), 4);
    due("26 ring(0, 7)", x.ring(0, 7), -2);
    due("26 ring(0, -2)", x.ring(0, -2), -2);
    x.table(1, 16, 16);
    due("26 without arcs", x.ring(1, -1), 16);
    due("26 without arcs", x.ring(1, 15), 15);
  }

  private static void sort() {
    KeptTables x = new KeptTables();
    x.list(9);
    Checks.make(x, 0, 6, 6, 5, 0, 1, 3, 1, 0, 2, 2, 1, 4, 3, 1, 2, 3, 1);
    due("27 sort(0)", x.sort(0), 6);
    CHECKS.dueList("27 the least first", x, 2, 4, 3, 1, 5, 0);
    x.table(1, 16, 16);
    due("27 without arcs", x.sort(1), 16);
    CHECKS.dueList("27 all", x, 0, 1, 2, 3, 4, 5, 6, 7, 8, 9, 10, 11, 12, 13, 14, 15);
  }

  private static void sortRefused() {
    KeptTables x = new KeptTables();
    x.list(9);
    Checks.make(x, 0, 4, 4, 0, 1, 1, 1, 2, 1, 2, 1, 0);
    due("27 two nodes in a ring", x.sort(0), -3);
    CHECKS.dueList("27 the list stays", x, 9);
    due("27 sort(8)", x.sort(8), -1);
  }

  private static void narrow() {
    KeptTables x = new KeptTables();
    x.list(9);
    // A star: 3 is joined with all others, and 0 with 4 besides.
    Checks.make(x, 0, 5, 5, 3, 0, 1, 1, 3, 1, 3, 2, 0, 4, 3, 1, 3, 4, 1, 4, 0, 1, 2, 2, 1);
    due("28 narrow(0)", x.narrow(0), 3);
    CHECKS.dueList("28 the order", x, 1, 3, 2, 0, 4);
    due("28 its width", x.width(0), 3);
    x.table(1, 1, 1);
    due("28 one node", x.narrow(1), 0);
    CHECKS.dueList("28 one node", x, 0);
  }

  private static void narrowOfSeveralRows() {
    KeptTables x = new KeptTables();
    // 0 - 5, 2 - 6 - 1 - 4 - 2 round, 3 alone, although an arc leads from it to itself.
    Checks.make(x, 0, 7, 7, 0, 5, 1, 2, 6, 1, 1, 6, 1, 1, 4, 1, 4, 2, 1, 3, 3, 1);
    due("28 narrow(0)", x.narrow(0), 2);
    CHECKS.dueList("28 the rows", x, 3, 0, 5, 1, 4, 6, 2);
    // Nodes of the front come ahead of nodes with fewer neighbours further behind.
    Checks.make(x, 1, 7, 7, 0, 1, 1, 0, 2, 1, 1, 3, 1, 1, 4, 1, 2, 5, 1, 4, 6, 1, 3, 4, 1);
    due("28 narrow(1)", x.narrow(1), 2);
    CHECKS.dueList("28 from the front on", x, 5, 2, 0, 1, 3, 4, 6);
  }

  private static void width() {
    KeptTables x = new KeptTables();
    Checks.make(x, 0, 3, 3, 0, 1, 0, 2, 2, 1);
    due("29 an empty list", x.width(0), -3);
    x.list(1);
    x.list(2);
    due("29 a node too few", x.width(0), -3);
    x.list(0);
    due("29 width(0)", x.width(0), 2);
    CHECKS.dueList("29 the list stays", x, 1, 2, 0);
    x.list(0);
    due("29 a node twice", x.width(0), -3);
    CHECKS.dueList("29 the list stays", x, 1, 2, 0, 0);
    due("29 width(-1)", x.width(-1), -1);
    widthOfWrongLists();
  }

  private static void widthOfWrongLists() {
    KeptTables x = new KeptTables();
    x.table(0, 2, 2);
    x.list(0);
    x.list(2);
    due("29 no such node", x.width(0), -3);
    KeptTables y = new KeptTables();
    y.table(0, 2, 2);
    y.list(1);
    y.list(1);
    due("29 a node twice, one missing", y.width(0), -3);
    KeptTables z = new KeptTables();
    z.table(0, 2, 2);
    z.list(1);
    z.list(0);
    due("29 without neighbours", z.width(0), 0);
  }
}
