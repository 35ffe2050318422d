import java.util.Arrays;

/** Sentences of promises 24 to 29, and of "Terms" about graphs. */
final class GraphsEdges {
  private static final int NONE = Stories.NONE;
  private static final int[] NO_TABLE = {NONE, -1, 8, Edges.LOWEST, Edges.HIGHEST};

  private final Edges edges;

  GraphsEdges(Edges edges) {
    this.edges = edges;
  }

  void run() {
    graphsOfAllSizes();
    arcsOfZero();
    nodesOutsideOfNoGraph();
    walksOfNoSteps();
    walksOfSomeSteps();
    walksOfMostSteps();
    walksOfNoGraph();
    walksRefused();
    wayToItself();
    wayOfLeastArcs();
    wayAlongAll();
    wayOutside();
    wayUnfit();
    wayRefusedInOrder();
    ringWithItself();
    ringsNumbered();
    ringsOfAll();
    ringOutside();
    ringUnfit();
    ringRefusedInOrder();
    sortOfTheLeast();
    sortInPlaceOfTheList();
    sortWithoutSelfArcs();
    sortUnfit();
    sortWithoutTable();
    narrowBegins();
    narrowFromTheFront();
    narrowWhicheverWay();
    narrowOfNoArcs();
    narrowInPlaceOfTheList();
    narrowUnfit();
    narrowOfAllJoined();
    widthGreatest();
    widthWithout();
    widthUnfit();
    widthStays();
    widthRefusedInOrder();
  }

  /** Arcs 0 to 1, 1 to 2 and so on to the last node of n. */
  private static void chain(KeptTables x, int t, int n) {
    x.table(t, n, n);
    for (int i = 0; i + 1 < n; i++) {
      x.triple(i, i + 1, 1L);
    }
    x.join(t);
  }

  // ---- graphs

  private void graphsOfAllSizes() {
    edges.sentence(Edges.TERMS, "A TABLE with as many rows as columns is a GRAPH");
    for (int n : new int[] {1, 2, 15, 16}) {
      KeptTables x = new KeptTables();
      x.table(0, n, n);
      edges.due("way of " + n, x.way(0, n - 1, n - 1), 0);
      edges.due("rings of " + n, x.ring(0, -1), n);
      edges.due("sort of " + n, x.sort(0), n);
      edges.due("width of " + n, x.width(0), 0);
      edges.due("narrow of " + n, x.narrow(0), 0);
      edges.due("walks of " + n, x.walks(0, n - 1, n - 1, 0), 1);
    }
    int[][] sizes = {{1, 2}, {2, 1}, {15, 16}, {16, 15}, {1, 16}, {16, 1}};
    for (int[] size : sizes) {
      KeptTables x = new KeptTables();
      x.table(0, size[0], size[1]);
      String what = " of " + size[0] + " x " + size[1];
      edges.due("way" + what, x.way(0, 0, 0), -3);
      edges.due("rings" + what, x.ring(0, -1), -3);
      edges.due("ring" + what, x.ring(0, 0), -3);
      edges.due("sort" + what, x.sort(0), -3);
      edges.due("width" + what, x.width(0), -3);
      edges.due("narrow" + what, x.narrow(0), -3);
      edges.due("walks" + what, x.walks(0, 0, 0, 0), 0);
    }
  }

  private void arcsOfZero() {
    edges.sentence(Edges.TERMS, "an ARC leads from r to c, if (r, c) is KEPT");
    KeptTables x = new KeptTables();
    Checks.make(x, 0, 3, 3, 0, 1, 0, 1, 2, 0);
    edges.due("way along VALUES 0", x.way(0, 0, 2), 2);
    edges.due("walks along VALUES 0", x.walks(0, 0, 2, 2), 0);
    edges.due("no ARC back", x.way(0, 2, 0), -3);
    edges.due("narrow", x.narrow(0), 1);
    x.triple(2, 0, 0L);
    x.join(0);
    edges.due("rings along VALUES 0", x.ring(0, -1), 1);
    edges.due("sort along VALUES 0", x.sort(0), -3);
    x.prune(0);
    edges.due("without them no way", x.way(0, 0, 1), -3);
    edges.due("without them three rings", x.ring(0, -1), 3);
    edges.due("without them no width", x.width(0), 0);
  }

  private void nodesOutsideOfNoGraph() {
    edges.sentence(Edges.TERMS,
        "(Nodes are numbers of rows: others are outside, -2, also where it is no GRAPH.)");
    // Table 0 has 2 rows and 3 columns: node 2 is outside. Table 1 has 3 rows: node 2 is not.
    edges.same("way(0, 2, 0)", Stories::crowd, x -> x.way(0, 2, 0), -2);
    edges.same("way(0, 0, 2)", Stories::crowd, x -> x.way(0, 0, 2), -2);
    edges.same("way(0, 2, 2)", Stories::crowd, x -> x.way(0, 2, 2), -2);
    edges.same("way(0, 1, 1)", Stories::crowd, x -> x.way(0, 1, 1), -3);
    edges.same("way(1, 2, 2)", Stories::crowd, x -> x.way(1, 2, 2), -3);
    edges.same("way(1, 2, 3)", Stories::crowd, x -> x.way(1, 2, 3), -2);
    edges.same("ring(0, 2)", Stories::crowd, x -> x.ring(0, 2), -2);
    edges.same("ring(0, 1)", Stories::crowd, x -> x.ring(0, 1), -3);
    edges.same("ring(1, 2)", Stories::crowd, x -> x.ring(1, 2), -3);
    edges.same("ring(1, 3)", Stories::crowd, x -> x.ring(1, 3), -2);
    edges.same("ring(0, -2)", Stories::crowd, x -> x.ring(0, -2), -2);
    edges.same("ring(0, -1)", Stories::crowd, x -> x.ring(0, -1), -3);
  }

  // ---- promise 24

  private void walksOfNoSteps() {
    edges.sentence(Edges.TERMS, "(of no steps: 1 if a is b, else 0)");
    KeptTables x = new KeptTables();
    Stories.all(x, 0, 3, 3);
    x.table(1, 16, 16);
    for (int a = 0; a < 3; a++) {
      for (int b = 0; b < 3; b++) {
        edges.due("walks(0, " + a + ", " + b + ", 0)", x.walks(0, a, b, 0), a == b ? 1 : 0);
      }
    }
    edges.due("without ARCS", x.walks(1, 15, 15, 0), 1);
    edges.due("without ARCS, one step", x.walks(1, 15, 15, 1), 0);
    edges.due("without ARCS, elsewhere", x.walks(1, 15, 14, 0), 0);
  }

  private void walksOfSomeSteps() {
    edges.sentence(Edges.TERMS,
        "the sum, over all rows of n ARCS one behind the other, of the products of their VALUES");
    KeptTables x = new KeptTables();
    Checks.make(x, 0, 3, 3, 0, 1, 2, 0, 2, 3, 1, 2, 5, 2, 2, -7);
    edges.due("one step", x.walks(0, 0, 2, 1), 3);
    edges.due("two steps", x.walks(0, 0, 2, 2), 2 * 5 + 3 * -7);
    edges.due("three steps", x.walks(0, 0, 2, 3), 2 * 5 * -7 + 3 * 49);
    edges.due("none leads back", x.walks(0, 2, 0, 3), 0);
    edges.due("round and round", x.walks(0, 2, 2, 3), -343);
  }

  private void walksOfMostSteps() {
    edges.sentence(24, "WALKS of n steps (0 .. 60).");
    Edges.Story story = x -> Checks.make(x, 0, 2, 2, 0, 1, 1, 1, 0, -1, 0, 0, 0);
    edges.same("0 steps", story, x -> x.walks(0, 0, 0, 0), 1);
    edges.same("1 step", story, x -> x.walks(0, 0, 1, 1), 1);
    edges.same("59 steps", story, x -> x.walks(0, 0, 1, 59), -1);
    edges.same("60 steps", story, x -> x.walks(0, 0, 0, 60), 1);
    edges.same("61 steps", story, x -> x.walks(0, 0, 1, 61), 0);
    edges.same("62 steps", story, x -> x.walks(0, 0, 0, 62), 0);
    edges.same("64 steps", story, x -> x.walks(0, 0, 0, 64), 0);
    edges.same("-1 steps", story, x -> x.walks(0, 0, 1, -1), 0);
    edges.same("-1 steps to itself", story, x -> x.walks(0, 0, 0, -1), 0);
    edges.same("the most", story, x -> x.walks(0, 0, 0, Edges.HIGHEST), 0);
    edges.same("the least", story, x -> x.walks(0, 0, 0, Edges.LOWEST), 0);
  }

  private void walksOfNoGraph() {
    edges.sentence(24, "(0 also, when the TABLE is no GRAPH.)");
    Edges.Story wide = x -> Stories.all(x, 0, 2, 3);
    Edges.Story tall = x -> Stories.all(x, 0, 3, 2);
    for (int n : new int[] {0, 1, 2, 60}) {
      edges.same("2 x 3, steps " + n, wide, x -> x.walks(0, 0, 0, n), 0);
      edges.same("2 x 3, elsewhere, steps " + n, wide, x -> x.walks(0, 0, 1, n), 0);
      edges.same("3 x 2, steps " + n, tall, x -> x.walks(0, 1, 1, n), 0);
    }
  }

  private void walksRefused() {
    edges.sentence(Edges.TERMS, "Calls that answer a long answer 0 then.");
    Edges.Story story = x -> Stories.all(x, 0, 3, 3);
    for (int far : new int[] {-1, 3, 15, 16, Edges.LOWEST, Edges.HIGHEST}) {
      for (int n : new int[] {0, 1, 2}) {
        edges.same("24: a is " + far, story, x -> x.walks(0, far, 0, n), 0);
        edges.same("24: b is " + far, story, x -> x.walks(0, 0, far, n), 0);
        edges.same("24: both are " + far, story, x -> x.walks(0, far, far, n), 0);
      }
    }
    for (int t : NO_TABLE) {
      edges.same("24: table " + t, story, x -> x.walks(t, 0, 0, 0), 0);
    }
    edges.same("24: the last node", story, x -> x.walks(0, 2, 2, 1), 33);
  }

  // ---- promise 25

  private void wayToItself() {
    edges.sentence(Edges.TERMS, "(0 to itself)");
    KeptTables x = new KeptTables();
    x.table(0, 16, 16);
    x.triple(3, 3, 1L);
    x.triple(4, 5, 1L);
    x.triple(5, 4, 1L);
    x.join(0);
    edges.due("without ARCS", x.way(0, 15, 15), 0);
    edges.due("with an ARC to itself", x.way(0, 3, 3), 0);
    edges.due("within a RING", x.way(0, 4, 4), 0);
  }

  private void wayOfLeastArcs() {
    edges.sentence(Edges.TERMS,
        "the least number of ARCS that lead there, one behind the other");
    KeptTables x = new KeptTables();
    chain(x, 0, 6);
    x.triple(0, 4, 0L);
    x.triple(5, 0, 1L);
    x.join(0);
    edges.due("one", x.way(0, 0, 1), 1);
    edges.due("three", x.way(0, 0, 3), 3);
    edges.due("the short one", x.way(0, 0, 4), 1);
    edges.due("behind the short one", x.way(0, 0, 5), 2);
    edges.due("round", x.way(0, 1, 0), 5);
  }

  private void wayAlongAll() {
    edges.sentence(25, "A WAY.");
    KeptTables x = new KeptTables();
    chain(x, 0, 16);
    edges.due("to the next one", x.way(0, 14, 15), 1);
    edges.due("as long as can be", x.way(0, 0, 15), 15);
    edges.due("one less", x.way(0, 1, 15), 14);
    chain(x, 1, 2);
    edges.due("of two nodes", x.way(1, 0, 1), 1);
    edges.due("of two nodes, back", x.way(1, 1, 0), -3);
  }

  private void wayOutside() {
    edges.sentence(25, "-2: a, b");
    Edges.Story story = x -> Stories.all(x, 0, 3, 3);
    for (int far : new int[] {-1, 3, 16, Edges.LOWEST, Edges.HIGHEST}) {
      edges.same("a is " + far, story, x -> x.way(0, far, 0), -2);
      edges.same("b is " + far, story, x -> x.way(0, 0, far), -2);
      edges.same("both are " + far, story, x -> x.way(0, far, far), -2);
    }
    edges.same("the last node", story, x -> x.way(0, 2, 0), 1);
  }

  private void wayUnfit() {
    edges.sentence(25, "-3: it is no GRAPH, none leads there");
    edges.same("no GRAPH", Stories::crowd, x -> x.way(0, 0, 0), -3);
    edges.same("none back", Stories::crowd, x -> x.way(6, 2, 1), -3);
    edges.same("none at all", x -> x.table(0, 16, 16), x -> x.way(0, 0, 15), -3);
  }

  private void wayRefusedInOrder() {
    edges.sentence(25, "-1; -2: a, b; -3: it is no GRAPH");
    for (int t : NO_TABLE) {
      edges.same("-1 of " + t, Stories::crowd, x -> x.way(t, 0, 0), -1);
      edges.same("-1 ahead of -2", Stories::crowd, x -> x.way(t, -1, 16), -1);
    }
    edges.same("-2 ahead of no GRAPH", Stories::crowd, x -> x.way(0, 0, 16), -2);
    edges.same("-2 ahead of no GRAPH", Stories::crowd, x -> x.way(0, -1, 0), -2);
  }

  // ---- promise 26

  private void ringWithItself() {
    edges.sentence(Edges.TERMS, "(a with itself always)");
    KeptTables x = new KeptTables();
    x.table(0, 16, 16);
    for (int a = 0; a < 16; a++) {
      edges.due("without ARCS", x.ring(0, a), a);
    }
    edges.due("how many without ARCS", x.ring(0, -1), 16);
    chain(x, 1, 16);
    for (int a = 0; a < 16; a++) {
      edges.due("in a chain", x.ring(1, a), a);
    }
    edges.due("how many in a chain", x.ring(1, -1), 16);
    x.table(2, 1, 1);
    edges.due("one node", x.ring(2, 0), 0);
    edges.due("how many of one node", x.ring(2, -1), 1);
  }

  private void ringsNumbered() {
    edges.sentence(Edges.TERMS, "RINGS are numbered by their least members");
    KeptTables x = new KeptTables();
    // 0 alone; 1, 5; 2, 3, 4 round; 6 alone, although arcs lead to it from all.
    Checks.make(x, 0, 7, 7, 5, 1, 1, 1, 5, 1, 4, 3, 1, 3, 2, 1, 2, 4, 0, 0, 6, 1, 1, 6, 1, 2, 6, 1);
    int[] want = {0, 1, 2, 2, 2, 1, 3};
    for (int a = 0; a < 7; a++) {
      edges.due("ring(0, " + a + ")", x.ring(0, a), want[a]);
    }
    edges.due("how many", x.ring(0, -1), 4);
    Checks.make(x, 1, 4, 4, 0, 3, 1, 3, 0, 1, 1, 2, 1, 2, 1, 1);
    edges.due("0 and 3", x.ring(1, 3), 0);
    edges.due("1 and 2", x.ring(1, 2), 1);
    edges.due("two", x.ring(1, -1), 2);
  }

  private void ringsOfAll() {
    edges.sentence(26, "The RING of a node; how many there are (a = -1).");
    KeptTables x = new KeptTables();
    chain(x, 0, 16);
    x.triple(15, 0, 1L);
    x.join(0);
    edges.due("all in one", x.ring(0, -1), 1);
    edges.due("the first one", x.ring(0, 0), 0);
    edges.due("the last one", x.ring(0, 15), 0);
    chain(x, 1, 16);
    x.triple(15, 1, 1L);
    x.join(1);
    edges.due("all but 0", x.ring(1, -1), 2);
    edges.due("0 alone", x.ring(1, 0), 0);
    edges.due("the last one", x.ring(1, 15), 1);
    chain(x, 2, 16);
    x.turn(2, 2);
    x.triple(0, 14, 1L);
    x.join(2);
    edges.due("all but 15, the other way", x.ring(2, -1), 2);
    edges.due("the last one alone", x.ring(2, 15), 1);
  }

  private void ringOutside() {
    edges.sentence(26, "-1; -2; -3: it is no GRAPH.");
    Edges.Story story = x -> Stories.all(x, 0, 3, 3);
    for (int far : new int[] {-2, 3, 16, Edges.LOWEST, Edges.HIGHEST}) {
      edges.same("ring(0, " + far + ")", story, x -> x.ring(0, far), -2);
    }
    edges.same("the last node", story, x -> x.ring(0, 2), 0);
    edges.same("how many", story, x -> x.ring(0, -1), 1);
  }

  private void ringUnfit() {
    edges.sentence(26, "-3: it is no GRAPH");
    edges.same("a node of 2 x 3", Stories::crowd, x -> x.ring(0, 0), -3);
    edges.same("how many of 2 x 3", Stories::crowd, x -> x.ring(0, -1), -3);
    edges.same("a node of 3 x 2", Stories::crowd, x -> x.ring(1, 2), -3);
    edges.same("how many of 3 x 2", Stories::crowd, x -> x.ring(1, -1), -3);
  }

  private void ringRefusedInOrder() {
    edges.sentence(26, "-1; -2; -3: it is no GRAPH.");
    for (int t : NO_TABLE) {
      edges.same("-1 of " + t, Stories::crowd, x -> x.ring(t, -1), -1);
      edges.same("-1 ahead of -2", Stories::crowd, x -> x.ring(t, 16), -1);
    }
    edges.same("-2 ahead of -3", Stories::crowd, x -> x.ring(0, 16), -2);
    edges.same("-2 ahead of -3", Stories::crowd, x -> x.ring(0, -2), -2);
  }

  // ---- promise 27

  private void sortOfTheLeast() {
    edges.sentence(27,
        "again and again the least node to which no ARC leads from one that has not come yet: "
            + "how many");
    KeptTables x = new KeptTables();
    Checks.make(x, 0, 5, 5, 4, 0, 1, 0, 3, 1, 2, 1, 1);
    edges.due("sort", x.sort(0), 5);
    edges.dueList("the least first, as soon as it may", x, 2, 1, 4, 0, 3);
    chain(x, 1, 16);
    x.turn(1, 1);
    edges.due("all the other way about", x.sort(1), 16);
    edges.dueList("all", x, 15, 14, 13, 12, 11, 10, 9, 8, 7, 6, 5, 4, 3, 2, 1, 0);
    x.table(2, 1, 1);
    edges.due("one node", x.sort(2), 1);
    edges.dueList("one node", x, 0);
  }

  private void sortInPlaceOfTheList() {
    edges.sentence(27, "THE LIST becomes a row in which each ARC of a GRAPH leads to a later one");
    for (int before : new int[] {0, 1, 16}) {
      KeptTables x = new KeptTables();
      Checks.make(x, 0, 3, 3, 2, 0, 0, 0, 1, 5);
      Stories.listTimes(x, 7, before);
      edges.due("THE LIST had " + before, x.sort(0), 3);
      edges.dueList("THE LIST had " + before, x, 2, 0, 1);
      edges.due("one more behind it", x.list(9), 4);
      edges.due("listed(3)", x.listed(3), 9);
    }
  }

  private void sortWithoutSelfArcs() {
    edges.sentence(27, "(ARCS from a node to itself left out)");
    KeptTables x = new KeptTables();
    Checks.make(x, 0, 3, 3, 0, 0, 1, 1, 1, 0, 2, 2, 1, 2, 1, 1);
    edges.due("sort", x.sort(0), 3);
    edges.dueList("sort", x, 0, 2, 1);
    Checks.make(x, 1, 1, 1, 0, 0, 1);
    edges.due("one node", x.sort(1), 1);
  }

  private void sortUnfit() {
    edges.sentence(27, "-3 (THE LIST stays): it is no GRAPH, a RING has two nodes");
    edges.same("2 x 3", Stories::crowd, x -> x.sort(0), -3);
    edges.same("3 x 2", Stories::crowd, x -> x.sort(1), -3);
    edges.same("a RING of two", Stories::crowd, x -> x.sort(2), -3);
    Edges.Story three = x -> {
      Checks.make(x, 0, 5, 5, 0, 1, 1, 2, 3, 1, 3, 4, 0, 4, 2, 1);
      Stories.listOf(x, 4, 4);
    };
    edges.same("a RING of three behind others", three, x -> x.sort(0), -3);
    Edges.Story all = x -> {
      chain(x, 0, 16);
      x.triple(15, 0, 1L);
      x.join(0);
      Stories.listTimes(x, 15, 16);
    };
    edges.same("a RING of sixteen, THE LIST is full", all, x -> x.sort(0), -3);
    Edges.Story none = x -> Checks.make(x, 0, 2, 2, 0, 1, 1, 1, 0, 1);
    edges.same("THE LIST is empty", none, x -> x.sort(0), -3);
  }

  private void sortWithoutTable() {
    edges.sentence(27, "-1; -3 (THE LIST stays)");
    for (int t : NO_TABLE) {
      edges.same("sort(" + t + ")", Stories::crowd, x -> x.sort(t), -1);
    }
  }

  // ---- promise 28

  private void narrowBegins() {
    edges.sentence(Edges.TERMS,
        "again and again the node with the fewest neighbours (of like ones the least) of those "
            + "that have no place yet begins a row");
    KeptTables x = new KeptTables();
    // 3 and 5 have no neighbours; 1 - 4; 0 - 2 - 6 - 0 round.
    Checks.make(x, 0, 7, 7, 4, 1, 1, 0, 2, 1, 2, 6, 1, 6, 0, 1);
    edges.due("narrow", x.narrow(0), 2);
    edges.dueList("the fewest first", x, 3, 5, 1, 4, 0, 2, 6);
    // The middle of a chain has two neighbours: its ends begin.
    Checks.make(x, 1, 3, 3, 0, 1, 1, 0, 2, 1);
    edges.due("narrow of a chain", x.narrow(1), 1);
    edges.dueList("from an end on", x, 1, 0, 2);
  }

  private void narrowFromTheFront() {
    edges.sentence(Edges.TERMS,
        "then, from the front of this row on, each one's neighbours that have no place yet come "
            + "behind, those with the fewest neighbours first, of like ones the least");
    KeptTables x = new KeptTables();
    // 0 is joined with 1, 2, 3; 1 with 4, 5; 2 with 6; 7 with 3 alone; 4 with 5.
    Checks.make(x, 0, 8, 8,
        0, 1, 1, 0, 2, 1, 0, 3, 1, 1, 4, 1, 1, 5, 1, 2, 6, 1, 7, 3, 1, 4, 5, 1);
    edges.due("narrow", x.narrow(0), 3);
    edges.dueList("from 6 on", x, 6, 2, 0, 3, 1, 7, 4, 5);
    // 1 and its neighbours 0 and 2, each joined with the other one too: of like ones the least.
    Checks.make(x, 1, 5, 5, 0, 1, 1, 1, 2, 1, 1, 3, 1, 2, 0, 1, 3, 4, 1);
    edges.due("narrow", x.narrow(1), 2);
    edges.dueList("from 4 on", x, 4, 3, 1, 0, 2);
  }

  private void narrowWhicheverWay() {
    edges.sentence(Edges.TERMS,
        "whichever way ARCS lead (neighbours of a node: all others that one is joined with)");
    KeptTables x = new KeptTables();
    Checks.make(x, 0, 4, 4, 3, 1, 1, 1, 3, 1, 0, 3, 1, 1, 1, 1, 0, 0, 1, 2, 0, 1);
    edges.due("both ways count once, to itself not at all", x.narrow(0), 1);
    edges.dueList("1 - 3 - 0 - 2", x, 1, 3, 0, 2);
    x.turn(0, 1);
    edges.due("turned about", x.narrow(1), 1);
    edges.dueList("turned about", x, 1, 3, 0, 2);
    // 1 and 2 are joined with 0 alone, 1 with itself besides: it comes first all the same.
    Checks.make(x, 2, 4, 4, 3, 0, 1, 0, 1, 1, 0, 2, 1, 1, 1, 1, 3, 3, 1);
    edges.due("to itself counts for nothing", x.narrow(2), 2);
    edges.dueList("to itself counts for nothing", x, 1, 0, 2, 3);
    Checks.make(x, 3, 4, 4, 1, 0, 1, 1, 2, 1, 1, 3, 1, 2, 2, 1);
    edges.due("to itself counts for nothing", x.narrow(3), 2);
    edges.dueList("of like ones the least", x, 0, 1, 2, 3);
  }

  private void narrowOfNoArcs() {
    edges.sentence(28, "THE LIST becomes NARROW: its WIDTH.");
    KeptTables x = new KeptTables();
    x.table(0, 16, 16);
    edges.due("without ARCS", x.narrow(0), 0);
    edges.dueList("without ARCS", x, 0, 1, 2, 3, 4, 5, 6, 7, 8, 9, 10, 11, 12, 13, 14, 15);
    for (int i = 0; i < 16; i++) {
      x.triple(i, i, 1L);
    }
    x.join(0);
    edges.due("ARCS to themselves alone", x.narrow(0), 0);
    x.table(1, 1, 1);
    edges.due("one node", x.narrow(1), 0);
    edges.dueList("one node", x, 0);
    Checks.make(x, 2, 2, 2, 1, 0, 1);
    edges.due("two nodes", x.narrow(2), 1);
    edges.dueList("two nodes", x, 0, 1);
  }

  private void narrowInPlaceOfTheList() {
    edges.sentence(28, "THE LIST becomes NARROW: its WIDTH.");
    for (int before : new int[] {0, 1, 16}) {
      KeptTables x = new KeptTables();
      Checks.make(x, 0, 3, 3, 1, 0, 0, 2, 0, 5);
      Stories.listTimes(x, 7, before);
      edges.due("THE LIST had " + before, x.narrow(0), 1);
      edges.dueList("THE LIST had " + before, x, 1, 0, 2);
      edges.due("its WIDTH again", x.width(0), 1);
      edges.due("one more behind it", x.list(9), 4);
    }
  }

  private void narrowUnfit() {
    edges.sentence(28, "-1; -3 (THE LIST stays): it is no GRAPH.");
    edges.same("2 x 3", Stories::crowd, x -> x.narrow(0), -3);
    edges.same("3 x 2", Stories::crowd, x -> x.narrow(1), -3);
    for (int t : NO_TABLE) {
      edges.same("narrow(" + t + ")", Stories::crowd, x -> x.narrow(t), -1);
    }
    Edges.Story full = x -> {
      x.table(0, 1, 2);
      Stories.listTimes(x, 15, 16);
    };
    edges.same("THE LIST is full", full, x -> x.narrow(0), -3);
  }

  /** A graph of sixteen nodes that keeps 128 arcs, each joined with every other one. */
  private void narrowOfAllJoined() {
    edges.sentence(28, "THE LIST becomes NARROW: its WIDTH.");
    KeptTables x = new KeptTables();
    x.table(0, 16, 16);
    int kept = 0;
    for (int r = 0; r < 16; r++) {
      for (int c = r + 1; c < 16; c++) {
        x.triple(r, c, 1L);
        kept++;
      }
      edges.due("join", x.join(0), kept);
    }
    edges.due("narrow", x.narrow(0), 15);
    edges.dueList("narrow", x, 0, 1, 2, 3, 4, 5, 6, 7, 8, 9, 10, 11, 12, 13, 14, 15);
    edges.due("sort", x.sort(0), 16);
    Checks.make(x, 1, 16, 16);
    for (int i = 0; i < 16; i++) {
      if (i != 7) {
        x.triple(7, i, 1L);
      }
    }
    x.join(1);
    edges.due("all joined with 7", x.narrow(1), 14);
    edges.dueList("all joined with 7", x, 0, 7, 1, 2, 3, 4, 5, 6, 8, 9, 10, 11, 12, 13, 14, 15);
  }

  // ---- promise 29

  private void widthGreatest() {
    edges.sentence(Edges.TERMS,
        "WIDTH of an order: the greatest distance of places in it of two neighbours");
    int[][] orders = {{0, 1, 2, 3}, {0, 3, 2, 1}, {1, 0, 3, 2}, {3, 1, 0, 2}, {2, 3, 1, 0}};
    int[] want = {2, 3, 2, 3, 1};
    for (int i = 0; i < orders.length; i++) {
      KeptTables x = new KeptTables();
      Checks.make(x, 0, 4, 4, 1, 0, 1, 3, 1, 0, 2, 3, 5, 2, 2, 1);
      Stories.listOf(x, orders[i]);
      edges.due("order " + i, x.width(0), want[i]);
    }
    KeptTables x = new KeptTables();
    x.table(0, 16, 16);
    x.triple(15, 0, 0L);
    x.join(0);
    Stories.listOf(x, 0, 1, 2, 3, 4, 5, 6, 7, 8, 9, 10, 11, 12, 13, 14, 15);
    edges.due("the first and the last of sixteen", x.width(0), 15);
  }

  private void widthWithout() {
    edges.sentence(Edges.TERMS, "of two neighbours (0 without)");
    KeptTables x = new KeptTables();
    Checks.make(x, 0, 3, 3, 0, 0, 1, 2, 2, 1);
    Stories.listOf(x, 2, 0, 1);
    edges.due("ARCS to themselves alone", x.width(0), 0);
    KeptTables y = new KeptTables();
    y.table(0, 1, 1);
    y.list(0);
    edges.due("one node", y.width(0), 0);
  }

  private void widthUnfit() {
    edges.sentence(29, "-3: it is no GRAPH, THE LIST has not each of its nodes once");
    int[][] wrong = {
      {}, {0}, {0, 1}, {0, 1, 1}, {1, 1, 2}, {1, 2, 2}, {2, 2, 2}, {0, 0, 2}, {0, 1, 3},
      {0, 1, 15}, {1, 2, 3}, {0, 1, 2, 0}, {0, 1, 2, 3}, {0, 1, 2, 15}, {0, 0, 1, 1, 2, 2},
      {0, 1, 2, 3, 4, 5, 6, 7, 8, 9, 10, 11, 12, 13, 14, 15}
    };
    for (int[] numbers : wrong) {
      Edges.Story story = x -> {
        Checks.make(x, 0, 3, 3, 0, 1, 1, 1, 2, 1);
        Stories.listOf(x, numbers);
      };
      edges.same("THE LIST is " + Arrays.toString(numbers), story, x -> x.width(0), -3);
    }
    Edges.Story sixteen = x -> {
      chain(x, 0, 16);
      Stories.listOf(x, 0, 1, 2, 3, 4, 5, 6, 7, 8, 9, 10, 11, 12, 13, 14, 14);
    };
    edges.same("one of sixteen twice", sixteen, x -> x.width(0), -3);
    for (int columns : new int[] {2, 4}) {
      Edges.Story story = x -> {
        x.table(0, 3, columns);
        Stories.listOf(x, 0, 1, 2);
      };
      edges.same("3 x " + columns, story, x -> x.width(0), -3);
    }
  }

  private void widthStays() {
    edges.sentence(29, "WIDTH of THE LIST (which stays).");
    Edges.Story story = x -> {
      chain(x, 0, 3);
      Stories.listOf(x, 1, 2, 0);
    };
    edges.same("width", story, x -> x.width(0), 2);
    Edges.Story one = x -> {
      x.table(7, 1, 1);
      x.list(0);
    };
    edges.same("width of one node", one, x -> x.width(7), 0);
  }

  private void widthRefusedInOrder() {
    edges.sentence(29, "-1; -3: it is no GRAPH");
    for (int t : NO_TABLE) {
      edges.same("-1 of " + t + ", THE LIST does not fit", Stories::crowd, x -> x.width(t), -1);
      edges.same("-1 of " + t + ", THE LIST is empty", Stories::nothing, x -> x.width(t), -1);
    }
  }
}
