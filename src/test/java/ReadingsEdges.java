/**
 * Sentences of the document that could be read in two ways. Each test here fails under the other
 * reading; README.md tells which reading was taken, and why.
 */
final class ReadingsEdges {
  private static final int NONE = Stories.NONE;

  private final Edges edges;

  ReadingsEdges(Edges edges) {
    this.edges = edges;
  }

  void run() {
    noTableEmptiesNoTriples();
    noTableEmptiesNoList();
    neighboursWithAPlaceCount();
    ringsOfNoGraph();
    widthBesideOtherNumbers();
    widthBehindALargerGraph();
  }

  /** -1 is not among the refusals that empty: what was collected can be used later. */
  private void noTableEmptiesNoTriples() {
    edges.sentence(Edges.TERMS,
        "what uses them empties them (also when it is refused by -3, -4)");
    for (int t : new int[] {NONE, -1, 8}) {
      KeptTables x = new KeptTables();
      x.table(0, 2, 2);
      x.triple(0, 1, 5L);
      x.triple(1, 1, 6L);
      edges.due("join(" + t + ")", x.join(t), -1);
      edges.due("THE TRIPLES stay", x.count(0, 4), 2);
      edges.due("join behind it", x.join(0), 2);
      edges.dueTable("join behind it", x, 0, "2x2: 0,1=5 1,1=6");
    }
  }

  private void noTableEmptiesNoList() {
    edges.sentence(Edges.TERMS,
        "what uses them empties them (also when it is refused by -3, -4)");
    int[][] refused = {{NONE, 1}, {-1, 1}, {8, 1}, {0, -1}, {0, 8}};
    for (int[] pair : refused) {
      String call = "rows(" + pair[0] + ", " + pair[1] + ")";
      KeptTables x = new KeptTables();
      Checks.make(x, 0, 2, 1, 1, 0, 7);
      Stories.listOf(x, 1, 0, 1);
      edges.due(call, x.rows(pair[0], pair[1]), -1);
      edges.dueList("THE LIST behind " + call, x, 1, 0, 1);
      edges.due("rows behind " + call, x.rows(0, 1), 2);
      edges.dueTable("rows behind " + call, x, 1, "3x1: 0,0=7 2,0=7");
    }
  }

  private void neighboursWithAPlaceCount() {
    edges.sentence(Edges.TERMS, "(neighbours of a node: all others that one is joined with)");
    KeptTables x = new KeptTables();
    // When 3 (joined with 1, 2, 6) and 4 (with 1, 5) come behind 1, each has one without a place.
    Checks.make(x, 0, 7, 7,
        0, 1, 1, 0, 2, 1, 1, 3, 1, 1, 4, 1, 2, 3, 1, 2, 6, 1, 3, 6, 1, 4, 5, 1, 5, 6, 1);
    edges.due("narrow", x.narrow(0), 3);
    edges.dueList("4 has fewer neighbours than 3", x, 0, 1, 2, 4, 3, 6, 5);
  }

  /** a = -1 asks for all rings: it is no node, so that -2 does not fit and -3 is the first. */
  private void ringsOfNoGraph() {
    edges.sentence(26, "how many there are (a = -1). -1; -2; -3: it is no GRAPH.");
    int[][] sizes = {{1, 2}, {2, 1}, {1, 16}, {16, 1}, {15, 16}, {16, 15}};
    for (int[] size : sizes) {
      Edges.Story story = x -> x.table(0, size[0], size[1]);
      String what = size[0] + " x " + size[1];
      edges.same("how many of " + what, story, x -> x.ring(0, -1), -3);
      edges.same("the last node of " + what, story, x -> x.ring(0, size[0] - 1), -3);
      edges.same("no node of " + what, story, x -> x.ring(0, size[0]), -2);
      edges.same("-2 of " + what, story, x -> x.ring(0, -2), -2);
    }
  }

  /** THE LIST is an order of the graph's nodes: a number that is no node makes sizes unfit. */
  private void widthBesideOtherNumbers() {
    edges.sentence(29, "-3: it is no GRAPH, THE LIST has not each of its nodes once.");
    int[][] lists = {{3, 0, 1, 2}, {0, 3, 1, 2}, {0, 1, 3, 2}, {0, 1, 2, 3}, {15, 0, 1, 2, 14}};
    for (int[] numbers : lists) {
      Edges.Story story = x -> {
        Checks.make(x, 0, 3, 3, 0, 1, 1, 1, 2, 1);
        Stories.listOf(x, numbers);
      };
      edges.same("all nodes and " + (numbers.length - 3) + " more", story, x -> x.width(0), -3);
    }
  }

  private void widthBehindALargerGraph() {
    edges.sentence(29, "-3: it is no GRAPH, THE LIST has not each of its nodes once.");
    KeptTables x = new KeptTables();
    x.table(0, 4, 4);
    x.table(1, 3, 3);
    x.table(2, 5, 5);
    edges.due("narrow", x.narrow(0), 0);
    edges.due("of as many nodes", x.width(0), 0);
    edges.due("of fewer nodes", x.width(1), -3);
    edges.due("of more nodes", x.width(2), -3);
    edges.dueList("THE LIST stays", x, 0, 1, 2, 3);
  }
}
