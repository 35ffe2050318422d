/** Sentences of promises 13 to 20. */
final class TablesEdges {
  private static final int NONE = Stories.NONE;

  private final Edges edges;

  TablesEdges(Edges edges) {
    this.edges = edges;
  }

  void run() {
    addKeepsAll();
    addOfNothing();
    addUnfit();
    addWithoutRoom();
    addRefusedInOrder();
    timesKeeps();
    timesOfNothing();
    timesOfAllSizes();
    timesUnfit();
    timesWithoutRoom();
    timesRefusedInOrder();
    eachKeepsBoth();
    eachUnfit();
    maskIn();
    maskOut();
    maskUnfit();
    turns();
    turnRefused();
    rowsInOrder();
    rowsOfFullList();
    rowsUnfit();
    rowsWithoutRoom();
    rowsRefusedInOrder();
    slopesByA();
    slopesByB();
    slopesOnKeptPlacesAlone();
    slopesOfFullTables();
    slopesUnfit();
    slopesRefusedInOrder();
    sums();
    sumsRefused();
  }

  /** The bottom half of a table of 16 x 16 is kept, 128 places, with 1 each. */
  private static void fullBelow(KeptTables x, int t) {
    x.table(t, 2, 16);
    for (int c = 0; c < 16; c++) {
      x.triple(1, c, 1L);
    }
    x.join(t);
    for (int r = 0; r < 16; r++) {
      x.list(r / 8);
    }
    x.rows(t, t);
  }

  // ---- promise 13

  private void addKeepsAll() {
    edges.sentence(13, "x times a and y times b: KEPT are all that are KEPT in a or b.");
    KeptTables x = new KeptTables();
    Checks.make(x, 0, 2, 2, 0, 0, 3, 0, 1, 0, 1, 0, 5);
    Checks.make(x, 1, 2, 2, 0, 0, 7, 0, 1, 0, 1, 1, 9);
    edges.due("add, 2 and 10", x.add(0, 1, 2, 2L, 10L), 4);
    edges.dueTable("add, 2 and 10", x, 2, "2x2: 0,0=76 0,1=0 1,0=10 1,1=90");
    edges.due("x is 0", x.add(0, 1, 2, 0L, 1L), 4);
    edges.dueTable("x is 0", x, 2, "2x2: 0,0=7 0,1=0 1,0=0 1,1=9");
    edges.due("y is 0", x.add(0, 1, 2, 1L, 0L), 4);
    edges.dueTable("y is 0", x, 2, "2x2: 0,0=3 0,1=0 1,0=5 1,1=0");
    edges.due("7 and -3", x.add(0, 1, 2, 7L, -3L), 4);
    edges.dueTable("what adds up to 0 is kept", x, 2, "2x2: 0,0=0 0,1=0 1,0=35 1,1=-27");
    edges.dueTable("a stays", x, 0, "2x2: 0,0=3 0,1=0 1,0=5");
    edges.dueTable("b stays", x, 1, "2x2: 0,0=7 0,1=0 1,1=9");
  }

  private void addOfNothing() {
    edges.sentence(13, "KEPT are all that are KEPT in a or b");
    KeptTables x = new KeptTables();
    x.table(0, 1, 1);
    edges.due("of two empty tables", x.add(0, 0, 1, 5L, 5L), 0);
    edges.dueTable("of two empty tables", x, 1, "1x1:");
    Checks.make(x, 2, 1, 1, 0, 0, 4);
    edges.due("a is empty", x.add(0, 2, 3, 5L, 6L), 1);
    edges.dueTable("a is empty", x, 3, "1x1: 0,0=24");
    edges.due("b is empty", x.add(2, 0, 3, 5L, 6L), 1);
    edges.dueTable("b is empty", x, 3, "1x1: 0,0=20");
  }

  private void addUnfit() {
    edges.sentence(13, "-3; -4.");
    edges.same("2 x 3 and 3 x 2", Stories::crowd, x -> x.add(0, 1, NONE, 1L, 1L), -3);
    edges.same("2 x 3 and 2 x 2: columns", Stories::crowd, x -> x.add(0, 2, 0, 1L, 1L), -3);
    edges.same("2 x 2 and 3 x 2: rows", Stories::crowd, x -> x.add(2, 1, 0, 1L, 1L), -3);
    edges.same("1 x 1 and 16 x 16", Stories::crowd, x -> x.add(7, 3, 0, 0L, 0L), -3);
  }

  private void addWithoutRoom() {
    edges.sentence(13, "-3; -4.");
    edges.same("128 and 1", Stories::crowd, x -> x.add(3, 4, NONE, 1L, 1L), -4);
    edges.same("1 and 128, times 0", Stories::crowd, x -> x.add(4, 3, 2, 0L, 0L), -4);
    Edges.Story halves = x -> {
      Stories.fullAbove(x, 0);
      fullBelow(x, 1);
    };
    edges.same("128 and 128, 256 in all", halves, x -> x.add(0, 1, 2, 1L, 1L), -4);
    KeptTables x = new KeptTables();
    Stories.fullAbove(x, 0);
    Checks.make(x, 1, 16, 16, 7, 15, 1, 0, 0, 1);
    edges.due("128 and 2 of them, 128 in all", x.add(0, 1, 2, 1L, 1L), 128);
    edges.due("at(2, 7, 15)", x.at(2, 7, 15), 17);
    x.set(0, 3, 3, 0L);
    x.prune(0);
    Checks.make(x, 1, 16, 16, 8, 0, 5);
    edges.due("127 and 1, 128 in all", x.add(0, 1, 2, 1L, 1L), 128);
    edges.due("at(2, 8, 0)", x.at(2, 8, 0), 5);
  }

  private void addRefusedInOrder() {
    edges.sentence(Edges.TERMS, "-4 no room; the first that fits");
    edges.same("13: -1 ahead of -3", Stories::crowd, x -> x.add(0, 1, 8, 1L, 1L), -1);
    edges.same("13: -1 ahead of -4", Stories::crowd, x -> x.add(3, 4, -1, 1L, 1L), -1);
    Edges.Story full = x -> {
      x.table(0, 1, 16);
      for (int c = 0; c < 16; c++) {
        x.triple(0, c, 1L);
      }
      x.join(0);
      Stories.listTimes(x, 0, 8);
      x.rows(0, 0);
      fullBelow(x, 1);
    };
    edges.same("13: -3 ahead of -4", full, x -> x.add(0, 1, 2, 1L, 1L), -3);
  }

  // ---- promise 14

  private void timesKeeps() {
    edges.sentence(14,
        "(r, c) is KEPT, if some (r, k) is in a, and (k, c) in b; the sum of their products");
    KeptTables x = new KeptTables();
    Checks.make(x, 0, 2, 3, 0, 0, 2, 0, 1, 3, 0, 2, 0, 1, 2, 4);
    Checks.make(x, 1, 3, 3, 0, 0, 5, 1, 0, 7, 0, 1, 3, 1, 1, -2, 2, 2, 0);
    edges.due("times", x.times(0, 1, 2), 4);
    edges.dueTable("also where the sum is 0", x, 2, "2x3: 0,0=31 0,1=0 0,2=0 1,2=0");
    edges.dueTable("a stays", x, 0, "2x3: 0,0=2 0,1=3 0,2=0 1,2=4");
  }

  private void timesOfNothing() {
    edges.sentence(14, "(r, c) is KEPT, if some (r, k) is in a, and (k, c) in b");
    KeptTables x = new KeptTables();
    Checks.make(x, 0, 1, 2, 0, 0, 5);
    Checks.make(x, 1, 2, 1, 1, 0, 6);
    x.table(2, 2, 1);
    edges.due("no k in both", x.times(0, 1, 3), 0);
    edges.dueTable("no k in both", x, 3, "1x1:");
    edges.due("b is empty", x.times(0, 2, 3), 0);
    edges.due("a is empty", x.times(2, 0, 3), 0);
    edges.dueTable("a is empty", x, 3, "2x2:");
  }

  private void timesOfAllSizes() {
    edges.sentence(14, "The product:");
    KeptTables x = new KeptTables();
    x.table(0, 1, 16);
    for (int c = 0; c < 16; c++) {
      x.triple(0, c, c);
    }
    x.join(0);
    x.turn(0, 1);
    edges.due("1 x 16 and 16 x 1", x.times(0, 1, 2), 1);
    edges.due("all 16 products", x.at(2, 0, 0), 1240);
    edges.due("1 x 1 and 1 x 16", x.times(2, 0, 3), 16);
    edges.due("at(3, 0, 15)", x.at(3, 0, 15), 1240 * 15);
    edges.due("16 x 1 and 1 x 1", x.times(1, 2, 3), 16);
    edges.due("at(3, 15, 0)", x.at(3, 15, 0), 1240 * 15);
    edges.due("columns of it", x.count(3, 1), 1);
  }

  private void timesUnfit() {
    edges.sentence(14, "-3; -4.");
    edges.same("2 x 3 by 2 x 3", Stories::crowd, x -> x.times(0, 0, NONE), -3);
    edges.same("2 x 3 by 2 x 2", Stories::crowd, x -> x.times(0, 2, 0), -3);
    edges.same("1 x 1 by 2 x 2", Stories::crowd, x -> x.times(7, 2, 0), -3);
    edges.same("16 x 16 by 1 x 1", Stories::crowd, x -> x.times(3, 7, 0), -3);
    KeptTables x = new KeptTables();
    Stories.crowd(x);
    edges.due("2 x 2 by 2 x 3 fits", x.times(2, 0, 5), 6);
    edges.due("2 x 3 by 2 x 2 does not", x.times(0, 2, 5), -3);
  }

  /** A column with n kept places by a row with m kept places: n m places. */
  private static void columnAndRow(KeptTables x, int n, int m) {
    x.table(0, 16, 1);
    for (int r = 0; r < n; r++) {
      x.triple(r, 0, 1L);
    }
    x.join(0);
    x.table(1, 1, 16);
    for (int c = 0; c < m; c++) {
      x.triple(0, c, 0L);
    }
    x.join(1);
    Checks.make(x, 2, 2, 2, 1, 1, 6);
  }

  private void timesWithoutRoom() {
    edges.sentence(14, "-3; -4.");
    edges.same("16 by 16", x -> columnAndRow(x, 16, 16), x -> x.times(0, 1, 2), -4);
    edges.same("9 by 16", x -> columnAndRow(x, 9, 16), x -> x.times(0, 1, 2), -4);
    edges.same("10 by 13", x -> columnAndRow(x, 10, 13), x -> x.times(0, 1, 3), -4);
    int[][] fit = {{8, 16}, {16, 8}, {9, 14}};
    for (int[] sides : fit) {
      KeptTables x = new KeptTables();
      columnAndRow(x, sides[0], sides[1]);
      edges.due(sides[0] + " by " + sides[1], x.times(0, 1, 2), sides[0] * sides[1]);
      edges.due("all are 0", x.count(2, 3), sides[0] * sides[1]);
    }
    Edges.Story exact = x -> {
      x.table(0, 16, 2);
      x.table(1, 2, 16);
      for (int i = 0; i < 8; i++) {
        x.triple(i, 0, 1L);
      }
      x.triple(8, 1, 1L);
      x.join(0);
      for (int c = 0; c < 16; c++) {
        x.triple(0, c, 1L);
      }
      x.join(1);
    };
    KeptTables x = new KeptTables();
    exact.tell(x);
    edges.due("128 places", x.times(0, 1, 2), 128);
    Edges.Story oneMore = y -> {
      exact.tell(y);
      y.triple(1, 0, 0L);
      y.join(1);
    };
    edges.same("129 places", oneMore, y -> y.times(0, 1, 2), -4);
    edges.same("129 places into a", oneMore, y -> y.times(0, 1, 0), -4);
  }

  private void timesRefusedInOrder() {
    edges.sentence(Edges.TERMS, "-4 no room; the first that fits");
    edges.same("14: -1 ahead of -3", Stories::crowd, x -> x.times(0, 0, 8), -1);
    edges.same("14: -1 ahead of -4", x -> columnAndRow(x, 16, 16), x -> x.times(0, 1, -1), -1);
    Edges.Story wrong = x -> {
      columnAndRow(x, 16, 16);
      wideRow(x, 3);
    };
    edges.same("14: -3 ahead of -4", wrong, x -> x.times(0, 3, 4), -3);
  }

  // ---- promises 15 and 16

  private void eachKeepsBoth() {
    edges.sentence(15, "Place by place: KEPT are those KEPT in both, with the products.");
    KeptTables x = new KeptTables();
    Checks.make(x, 0, 2, 2, 0, 0, 3, 0, 1, 0, 1, 0, 5);
    Checks.make(x, 1, 2, 2, 0, 0, -7, 0, 1, 4, 1, 1, 9);
    edges.due("each", x.each(0, 1, 2), 2);
    edges.dueTable("each", x, 2, "2x2: 0,0=-21 0,1=0");
    x.table(3, 2, 2);
    edges.due("b is empty", x.each(0, 3, 2), 0);
    edges.dueTable("b is empty", x, 2, "2x2:");
    Stories.fullAbove(x, 4);
    Checks.make(x, 5, 16, 16, 0, 0, 5, 7, 15, 2, 8, 0, 3);
    edges.due("one is full", x.each(4, 5, 6), 2);
    edges.dueTable("one is full", x, 6, "16x16: 0,0=5 7,15=32");
  }

  private void eachUnfit() {
    edges.sentence(15, "-3.");
    edges.same("2 x 3 and 3 x 2", Stories::crowd, x -> x.each(0, 1, NONE), -3);
    edges.same("columns", Stories::crowd, x -> x.each(0, 2, 2), -3);
    edges.same("rows", Stories::crowd, x -> x.each(2, 1, 2), -3);
    edges.same("empty, of another size", Stories::crowd, x -> x.each(7, 2, 2), -3);
    edges.same("-1 ahead of -3", Stories::crowd, x -> x.each(0, 1, 8), -1);
    edges.same("-1 ahead of -3", Stories::crowd, x -> x.each(0, NONE, 0), -1);
  }

  private void maskIn() {
    edges.sentence(16, "Those KEPT in a that are KEPT in b (in true) or are not.");
    KeptTables x = new KeptTables();
    Checks.make(x, 0, 2, 2, 0, 0, 3, 0, 1, 0, 1, 0, 5);
    Checks.make(x, 1, 2, 2, 0, 0, 0, 0, 1, 4, 1, 1, 9);
    edges.due("in", x.mask(0, 1, 2, true), 2);
    edges.dueTable("in, b's 0 counts as kept", x, 2, "2x2: 0,0=3 0,1=0");
    x.table(3, 2, 2);
    edges.due("in, b is empty", x.mask(0, 3, 2, true), 0);
    edges.dueTable("in, b is empty", x, 2, "2x2:");
    edges.due("in, a is empty", x.mask(3, 0, 2, true), 0);
  }

  private void maskOut() {
    edges.sentence(16, "Those KEPT in a that are KEPT in b (in true) or are not.");
    KeptTables x = new KeptTables();
    Checks.make(x, 0, 2, 2, 0, 0, 3, 0, 1, 0, 1, 0, 0);
    Checks.make(x, 1, 2, 2, 0, 0, 0, 0, 1, 4, 1, 1, 9);
    edges.due("out", x.mask(0, 1, 2, false), 1);
    edges.dueTable("out", x, 2, "2x2: 1,0=0");
    x.table(3, 2, 2);
    edges.due("out, b is empty", x.mask(0, 3, 2, false), 3);
    edges.dueTable("out, b is empty", x, 2, "2x2: 0,0=3 0,1=0 1,0=0");
    edges.due("out, a is empty", x.mask(3, 0, 2, false), 0);
    Stories.fullAbove(x, 4);
    fullBelow(x, 5);
    edges.due("out, both are full", x.mask(4, 5, 6, false), 128);
    edges.due("at(6, 7, 15)", x.at(6, 7, 15), 16);
    edges.due("in, both are full", x.mask(4, 5, 6, true), 0);
  }

  private void maskUnfit() {
    edges.sentence(16, "-3.");
    for (boolean in : new boolean[] {true, false}) {
      edges.same("2 x 3 and 3 x 2", Stories::crowd, x -> x.mask(0, 1, NONE, in), -3);
      edges.same("columns", Stories::crowd, x -> x.mask(0, 2, 2, in), -3);
      edges.same("rows", Stories::crowd, x -> x.mask(2, 1, 2, in), -3);
      edges.same("-1 ahead of -3", Stories::crowd, x -> x.mask(0, 1, 8, in), -1);
      edges.same("-1 ahead of -3", Stories::crowd, x -> x.mask(NONE, 1, 2, in), -1);
    }
  }

  // ---- promise 17

  private void turns() {
    edges.sentence(17, "Rows and columns changed about.");
    KeptTables x = new KeptTables();
    Checks.make(x, 0, 1, 16, 0, 0, 1, 0, 15, 0);
    edges.due("1 x 16", x.turn(0, 1), 2);
    edges.dueTable("1 x 16", x, 1, "16x1: 0,0=1 15,0=0");
    edges.due("16 x 1", x.turn(1, 1), 2);
    edges.dueTable("16 x 1", x, 1, "1x16: 0,0=1 0,15=0");
    x.table(2, 3, 5);
    edges.due("an empty one", x.turn(2, 3), 0);
    edges.dueTable("an empty one", x, 3, "5x3:");
    Stories.fullAbove(x, 4);
    edges.due("a full one", x.turn(4, 4), 128);
    edges.due("place(4, 127)", x.place(4, 127), 15 * 16 + 7);
    edges.due("at(4, 15, 7)", x.at(4, 15, 7), 16);
    edges.due("at(4, 7, 15)", x.at(4, 7, 15), 0);
    Checks.make(x, 5, 1, 1, 0, 0, 6);
    edges.due("1 x 1", x.turn(5, 5), 1);
    edges.dueTable("1 x 1", x, 5, "1x1: 0,0=6");
  }

  private void turnRefused() {
    edges.sentence(Edges.TERMS, "(all: how many places are KEPT in TO. -1: TO is not 0 .. 7");
    for (int to : new int[] {-1, 8, Edges.LOWEST, Edges.HIGHEST}) {
      edges.same("17: turn(0, " + to + ")", Stories::crowd, x -> x.turn(0, to), -1);
      edges.same("17: turn(" + to + ", 0)", Stories::crowd, x -> x.turn(to, 0), -1);
    }
    edges.same("17: turn(5, 0)", Stories::crowd, x -> x.turn(NONE, 0), -1);
  }

  // ---- promise 18

  private void rowsInOrder() {
    edges.sentence(18,
        "Rows of a as THE LIST tells them, one below the other (a row may come again).");
    KeptTables x = new KeptTables();
    Checks.make(x, 0, 3, 2, 0, 0, 1, 0, 1, 0, 2, 1, 5);
    Stories.listOf(x, 2, 0, 2, 1);
    edges.due("rows", x.rows(0, 1), 4);
    edges.dueTable("rows", x, 1, "4x2: 0,1=5 1,0=1 1,1=0 2,1=5");
    edges.dueTable("a stays", x, 0, "3x2: 0,0=1 0,1=0 2,1=5");
    x.list(1);
    edges.due("an empty row", x.rows(0, 1), 0);
    edges.dueTable("an empty row", x, 1, "1x2:");
  }

  private void rowsOfFullList() {
    edges.sentence(18, "Rows of a as THE LIST tells them, one below the other");
    KeptTables x = new KeptTables();
    Checks.make(x, 0, 16, 1, 15, 0, 5, 0, 0, 6);
    Stories.listOf(x, 15, 14, 13, 12, 11, 10, 9, 8, 7, 6, 5, 4, 3, 2, 1, 0);
    edges.due("all rows the other way about", x.rows(0, 1), 2);
    edges.dueTable("all rows the other way about", x, 1, "16x1: 0,0=5 15,0=6");
    Stories.listTimes(x, 15, 16);
    edges.due("the last row 16 times", x.rows(0, 1), 16);
    edges.due("at(1, 15, 0)", x.at(1, 15, 0), 5);
    edges.due("rows of it", x.count(1, 0), 16);
    Checks.make(x, 2, 1, 1, 0, 0, 3);
    Stories.listTimes(x, 0, 16);
    edges.due("the only row 16 times", x.rows(2, 2), 16);
    edges.due("sum of the column", x.sum(2, false, 0), 48);
  }

  private void rowsUnfit() {
    edges.sentence(18, "-3: THE LIST is empty, a has not such a row");
    Edges.Story table = x -> Checks.make(x, 0, 3, 2, 0, 0, 1, 2, 1, 5);
    edges.same("THE LIST is empty", table, x -> x.rows(0, 0), -3);
    edges.same("THE LIST is empty, TO is not there", table, x -> x.rows(0, 1), -3);
    for (int wrong : new int[] {3, 4, 15}) {
      Edges.Story last = x -> {
        table.tell(x);
        Stories.listOf(x, 0, 1, wrong);
      };
      edges.leaves("row " + wrong + " at the end", last, x -> x.rows(0, 0), -3, table);
      Edges.Story first = x -> {
        table.tell(x);
        Stories.listOf(x, wrong, 0, 1);
      };
      edges.leaves("row " + wrong + " at the front", first, x -> x.rows(0, 1), -3, table);
    }
    KeptTables x = new KeptTables();
    table.tell(x);
    x.list(2);
    edges.due("the last row is there", x.rows(0, 1), 1);
  }

  private void rowsWithoutRoom() {
    edges.sentence(18, "a has not such a row; -4.");
    Edges.Story table = x -> Stories.fullAbove(x, 0);
    for (int times : new int[] {9, 16}) {
      Edges.Story listed = x -> {
        table.tell(x);
        Stories.listTimes(x, 3, times);
      };
      edges.leaves("a full row " + times + " times", listed, x -> x.rows(0, 1), -4, table);
    }
    KeptTables x = new KeptTables();
    table.tell(x);
    Stories.listTimes(x, 3, 8);
    Stories.listTimes(x, 15, 8);
    edges.due("a full row 8 times, empty ones besides", x.rows(0, 0), 128);
    Edges.Story uneven = y -> {
      wideRow(y, 0);
      y.triple(1, 7, 0L);
      y.join(0);
    };
    KeptTables y = new KeptTables();
    uneven.tell(y);
    Stories.listOf(y, 0, 0, 0, 0, 0, 0, 0, 1);
    edges.due("7 times 16 and 1", y.rows(0, 1), 113);
    Edges.Story oneMore = z -> {
      uneven.tell(z);
      Stories.listOf(z, 0, 0, 0, 0, 1, 0, 0, 0, 0);
    };
    edges.leaves("8 times 16 and 1", oneMore, z -> z.rows(0, 0), -4, uneven);
  }

  /** A table of 2 x 16 that keeps row 0, with 1 at each place. */
  private static void wideRow(KeptTables x, int t) {
    x.table(t, 2, 16);
    for (int c = 0; c < 16; c++) {
      x.triple(0, c, 1L);
    }
    x.join(t);
  }

  private void rowsRefusedInOrder() {
    edges.sentence(Edges.TERMS, "-4 no room; the first that fits");
    Edges.Story wrong = x -> {
      Stories.crowd(x);
      x.list(15);
    };
    edges.same("18: -1 ahead of -3, a", wrong, x -> x.rows(NONE, 0), -1);
    edges.same("18: -1 ahead of -3, TO", wrong, x -> x.rows(0, 8), -1);
    Edges.Story empty = x -> Checks.make(x, 0, 1, 1, 0, 0, 1);
    edges.same("18: -1 ahead of an empty list", empty, x -> x.rows(1, 0), -1);
    edges.same("18: -1 ahead of an empty list", empty, x -> x.rows(0, -1), -1);
    Edges.Story full = x -> {
      x.table(0, 1, 16);
      for (int c = 0; c < 16; c++) {
        x.triple(0, c, 1L);
      }
      x.join(0);
    };
    Edges.Story both = x -> {
      full.tell(x);
      Stories.listTimes(x, 0, 15);
      x.list(1);
    };
    edges.leaves("18: -3 ahead of -4", both, x -> x.rows(0, 1), -3, full);
    edges.same("18: -1 ahead of -4", both, x -> x.rows(0, 8), -1);
  }

  // ---- promise 19

  private static void forSlopes(KeptTables x) {
    Checks.make(x, 0, 2, 3, 0, 0, 0, 0, 1, 7, 1, 2, 5);
    Checks.make(x, 1, 3, 2, 0, 0, 2, 0, 1, 3, 1, 1, 0, 2, 0, 4);
    Checks.make(x, 2, 2, 2, 0, 0, 10, 0, 1, 100, 1, 0, 0);
  }

  private void slopesByA() {
    edges.sentence(19, "at (r, k) of a the sum, over columns j, of c(r, j) b(k, j)");
    KeptTables x = new KeptTables();
    forSlopes(x);
    edges.due("first", x.slopes(0, 1, 2, 3, true), 3);
    edges.dueTable("first", x, 3, "2x3: 0,0=320 0,1=0 1,2=0");
    edges.dueTable("a stays", x, 0, "2x3: 0,0=0 0,1=7 1,2=5");
  }

  private void slopesByB() {
    edges.sentence(19, "at (k, j) of b the sum, over rows r, of c(r, j) a(r, k)");
    KeptTables x = new KeptTables();
    forSlopes(x);
    edges.due("not first", x.slopes(0, 1, 2, 3, false), 4);
    edges.dueTable("not first", x, 3, "3x2: 0,0=0 0,1=0 1,1=700 2,0=0");
    x.set(2, 1, 0, 1000L);
    edges.due("of another c", x.slopes(0, 1, 2, 3, false), 4);
    edges.dueTable("of another c", x, 3, "3x2: 0,0=0 0,1=0 1,1=700 2,0=5000");
  }

  private void slopesOnKeptPlacesAlone() {
    edges.sentence(19, "KEPT are the places of a (of b)");
    KeptTables x = new KeptTables();
    forSlopes(x);
    x.table(4, 2, 2);
    edges.due("c is empty, first", x.slopes(0, 1, 4, 3, true), 3);
    edges.dueTable("c is empty, first", x, 3, "2x3: 0,0=0 0,1=0 1,2=0");
    edges.due("c is empty", x.slopes(0, 1, 4, 3, false), 4);
    edges.dueTable("c is empty", x, 3, "3x2: 0,0=0 0,1=0 1,1=0 2,0=0");
    x.table(5, 2, 3);
    edges.due("a is empty, first", x.slopes(5, 1, 2, 3, true), 0);
    edges.dueTable("a is empty, first", x, 3, "2x3:");
    edges.due("a is empty", x.slopes(5, 1, 2, 3, false), 4);
    edges.dueTable("a is empty", x, 3, "3x2: 0,0=0 0,1=0 1,1=0 2,0=0");
    x.table(6, 3, 2);
    edges.due("b is empty, first", x.slopes(0, 6, 2, 3, true), 3);
    edges.dueTable("b is empty, first", x, 3, "2x3: 0,0=0 0,1=0 1,2=0");
    edges.due("b is empty", x.slopes(0, 6, 2, 3, false), 0);
    edges.dueTable("b is empty", x, 3, "3x2:");
  }

  private void slopesOfFullTables() {
    edges.sentence(19, "KEPT are the places of a (of b)");
    KeptTables x = new KeptTables();
    Stories.fullAbove(x, 0);
    edges.due("first", x.slopes(0, 0, 0, 1, true), 128);
    edges.due("a row by itself", x.at(1, 7, 7), 1496);
    edges.due("a row by an empty one", x.at(1, 7, 8), 0);
    edges.due("not first", x.slopes(0, 0, 0, 1, false), 128);
    edges.due("8 rows", x.at(1, 7, 15), 8 * 16 * 8);
    Checks.make(x, 2, 1, 1, 0, 0, 3);
    edges.due("1 x 1", x.slopes(2, 2, 2, 2, true), 1);
    edges.due("1 x 1", x.at(2, 0, 0), 9);
  }

  /** Sizes that fit: a is 2 x 3, b is 3 x 4, c is 2 x 4. Each side is wrong once. */
  private static void sizesForSlopes(KeptTables x) {
    x.table(0, 2, 3);
    x.table(1, 3, 4);
    x.table(2, 2, 4);
    x.table(3, 4, 4);
    x.table(4, 3, 3);
    x.table(5, 2, 2);
    x.table(6, 3, 5);
  }

  private void slopesUnfit() {
    edges.sentence(19, "-3.");
    for (boolean first : new boolean[] {true, false}) {
      Edges.Story sizes = TablesEdges::sizesForSlopes;
      edges.same("rows of b", sizes, x -> x.slopes(0, 3, 2, 6, first), -3);
      edges.same("columns of a", sizes, x -> x.slopes(5, 1, 2, 6, first), -3);
      edges.same("rows of c", sizes, x -> x.slopes(0, 1, 3, 6, first), -3);
      edges.same("columns of c", sizes, x -> x.slopes(0, 1, 0, 6, first), -3);
      edges.same("rows of a", sizes, x -> x.slopes(4, 1, 2, 6, first), -3);
      edges.same("columns of b", sizes, x -> x.slopes(0, 6, 2, 7, first), -3);
    }
    edges.leaves("fit, first", TablesEdges::sizesForSlopes, x -> x.slopes(0, 1, 2, 6, true), 0,
        x -> {
          sizesForSlopes(x);
          x.table(6, 2, 3);
        });
    edges.leaves("fit, not first", TablesEdges::sizesForSlopes,
        x -> x.slopes(0, 1, 2, 6, false), 0,
        x -> {
          sizesForSlopes(x);
          x.table(6, 3, 4);
        });
  }

  private void slopesRefusedInOrder() {
    edges.sentence(Edges.TERMS, "-4 no room; the first that fits");
    Edges.Story sizes = TablesEdges::sizesForSlopes;
    edges.same("19: -1 of a ahead of -3", sizes, x -> x.slopes(7, 0, 0, 6, true), -1);
    edges.same("19: -1 of b ahead of -3", sizes, x -> x.slopes(0, 7, 0, 6, true), -1);
    edges.same("19: -1 of c ahead of -3", sizes, x -> x.slopes(0, 0, 7, 6, false), -1);
    edges.same("19: -1 of TO ahead of -3", sizes, x -> x.slopes(0, 0, 0, 8, false), -1);
    edges.same("19: TO need not be there", sizes, x -> x.slopes(0, 0, 0, 7, false), -3);
  }

  // ---- promise 20

  private void sums() {
    edges.sentence(20, "The sum of a row's (byRow) or a column's VALUES.");
    KeptTables x = new KeptTables();
    Stories.all(x, 0, 3, 4);
    edges.due("row 0", x.sum(0, true, 0), 50);
    edges.due("row 2", x.sum(0, true, 2), 130);
    edges.due("column 0", x.sum(0, false, 0), 63);
    edges.due("column 3", x.sum(0, false, 3), 72);
    x.table(1, 16, 16);
    edges.due("a row of nothing", x.sum(1, true, 15), 0);
    edges.due("a column of nothing", x.sum(1, false, 15), 0);
    x.triple(15, 15, -5L);
    x.join(1);
    edges.due("row 15", x.sum(1, true, 15), -5);
    edges.due("column 15", x.sum(1, false, 15), -5);
  }

  private void sumsRefused() {
    edges.sentence(Edges.TERMS, "Calls that answer a long answer 0 then.");
    Edges.Story table = x -> Stories.all(x, 0, 3, 4);
    for (int far : new int[] {-1, 4, 16, 17, Edges.LOWEST, Edges.HIGHEST}) {
      edges.same("20: row " + far, table, x -> x.sum(0, true, far), 0);
      edges.same("20: column " + far, table, x -> x.sum(0, false, far), 0);
    }
    edges.same("20: row 3 of 3", table, x -> x.sum(0, true, 3), 0);
    edges.same("20: column 3 of 4", table, x -> x.sum(0, false, 3), 72);
    for (int t : new int[] {1, -1, 8, Edges.LOWEST, Edges.HIGHEST}) {
      edges.same("20: row of table " + t, table, x -> x.sum(t, true, 0), 0);
      edges.same("20: column of table " + t, table, x -> x.sum(t, false, 0), 0);
    }
  }
}
