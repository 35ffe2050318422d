/** Sentences of promises 21 to 23, and of "Terms" about forms. */
final class FormsEdges {
  private static final int NONE = Stories.NONE;
  private static final int[] FAR = {Edges.LOWEST, Edges.HIGHEST, -1, 0, 5};

  private final Edges edges;

  FormsEdges(Edges edges) {
    this.edges = edges;
  }

  void run() {
    triplesForm();
    rowsForm();
    columnsForm();
    blocksForm();
    blocksBeyond();
    blocksAsLargeAsTheTable();
    blocksOfFourBeyondSixteen();
    fullForm();
    slantsForm();
    slantsBeyond();
    slantsOfOneRowAndColumn();
    formsOfNothing();
    formsOfOnePlace();
    costOfFullTables();
    cellsToTheLast();
    costWithoutTable();
    costOutside();
    costRefusedInOrder();
    blockSideCountsForNothing();
    cheapestOfLikeOnes();
    cheapestByBlockSide();
    cheapestRefused();
    cellsOutside();
    cellsRefused();
  }

  /** A form has these cells, and none ahead of them or behind them. */
  private void dueCells(String what, Edges.Story story, int form, int b, long... cells) {
    KeptTables x = new KeptTables();
    story.tell(x);
    edges.due(what + ", cost", x.cost(0, form, b), cells.length);
    for (int i = 0; i < cells.length; i++) {
      edges.due(what + ", cell " + i, x.cell(0, form, b, i), cells[i]);
    }
    edges.due(what + ", cell -1", x.cell(0, form, b, -1), 0);
    edges.due(what + ", the cell behind the last", x.cell(0, form, b, cells.length), 0);
    edges.due(what + ", the one behind it", x.cell(0, form, b, cells.length + 1), 0);
    edges.due(what + ", cell far behind", x.cell(0, form, b, Edges.HIGHEST), 0);
    edges.due(what + ", cell far ahead", x.cell(0, form, b, Edges.LOWEST), 0);
  }

  // ---- the six forms

  private void triplesForm() {
    edges.sentence(Edges.TERMS, "0 TRIPLES: for each KEPT place r, c, its VALUE.");
    dueCells("two rows", x -> Checks.make(x, 0, 2, 16, 1, 0, 4, 0, 15, 0, 1, 15, -7), 0, 1,
        0, 15, 0, 1, 0, 4, 1, 15, -7);
  }

  private void rowsForm() {
    edges.sentence(Edges.TERMS,
        "1 BY ROWS: for each row how many KEPT places stand in the rows ahead of it, then n; "
            + "the columns of all; their VALUES.");
    dueCells("empty rows at both ends", x -> Checks.make(x, 0, 4, 3, 2, 0, 4, 1, 2, 0, 1, 0, 5),
        1, 1, 0, 0, 2, 3, 3, 0, 2, 0, 5, 0, 4);
    dueCells("the last row alone", x -> Checks.make(x, 0, 3, 1, 2, 0, 4), 1, 1,
        0, 0, 0, 1, 0, 4);
  }

  private void columnsForm() {
    edges.sentence(Edges.TERMS,
        "2 BY COLUMNS: likewise, with rows and columns changed about "
            + "(places by columns, then by rows).");
    dueCells("empty columns at both ends",
        x -> Checks.make(x, 0, 3, 4, 0, 2, 4, 2, 1, 0, 0, 1, 5), 2, 1,
        0, 0, 2, 3, 3, 0, 2, 0, 5, 0, 4);
    dueCells("a row", x -> Checks.make(x, 0, 1, 3, 0, 2, 4, 0, 0, 3), 2, 1,
        0, 1, 1, 2, 0, 0, 3, 4);
  }

  private void blocksForm() {
    edges.sentence(Edges.TERMS,
        "block rows and columns from 0 on: as BY ROWS of the blocks that have a KEPT place, "
            + "but in place of VALUES all b b VALUES of each block, row by row");
    Edges.Story story = x -> Checks.make(x, 0, 4, 4, 0, 3, 1, 1, 2, 2, 3, 0, 0);
    dueCells("blocks of 1", story, 3, 1, 0, 1, 2, 2, 3, 3, 2, 0, 1, 2, 0);
    dueCells("blocks of 2", story, 3, 2, 0, 1, 2, 1, 0, 0, 1, 2, 0, 0, 0, 0, 0);
  }

  private void blocksBeyond() {
    edges.sentence(Edges.TERMS, "(the last ones may reach beyond the TABLE, with 0)");
    Edges.Story story = x -> Stories.all(x, 0, 3, 5);
    dueCells("blocks of 2 over 3 x 5", story, 3, 2,
        0, 3, 6, 0, 1, 2, 0, 1, 2,
        11, 12, 21, 22, 13, 14, 23, 24, 15, 0, 25, 0,
        31, 32, 0, 0, 33, 34, 0, 0, 35, 0, 0, 0);
    dueCells("blocks of 3 over 3 x 5", story, 3, 3,
        0, 2, 0, 1,
        11, 12, 13, 21, 22, 23, 31, 32, 33,
        14, 15, 0, 24, 25, 0, 34, 35, 0);
    dueCells("blocks of 4 over 3 x 5", story, 3, 4,
        0, 2, 0, 1,
        11, 12, 13, 14, 21, 22, 23, 24, 31, 32, 33, 34, 0, 0, 0, 0,
        15, 0, 0, 0, 25, 0, 0, 0, 35, 0, 0, 0, 0, 0, 0, 0);
  }

  private void blocksAsLargeAsTheTable() {
    edges.sentence(Edges.TERMS, "(the last ones may reach beyond the TABLE, with 0)");
    dueCells("blocks of 4 over 4 x 4", x -> Checks.make(x, 0, 4, 4, 3, 3, 9), 3, 4,
        0, 1, 0, 0, 0, 0, 0, 0, 0, 0, 0, 0, 0, 0, 0, 0, 0, 0, 9);
    dueCells("blocks of 4 over 1 x 1", x -> Checks.make(x, 0, 1, 1, 0, 0, 9), 3, 4,
        0, 1, 0, 9, 0, 0, 0, 0, 0, 0, 0, 0, 0, 0, 0, 0, 0, 0, 0);
    dueCells("blocks of 4 over 5 x 1", x -> Checks.make(x, 0, 5, 1, 4, 0, 9), 3, 4,
        0, 0, 1, 0, 9, 0, 0, 0, 0, 0, 0, 0, 0, 0, 0, 0, 0, 0, 0, 0);
    dueCells("blocks of 3 over 1 x 4", x -> Checks.make(x, 0, 1, 4, 0, 3, 9), 3, 3,
        0, 1, 1, 9, 0, 0, 0, 0, 0, 0, 0, 0);
  }

  /** The table's last row and column are followed by nothing that is inside the object. */
  private void blocksOfFourBeyondSixteen() {
    edges.sentence(Edges.TERMS, "(the last ones may reach beyond the TABLE, with 0)");
    Edges.Story corner = x -> Checks.make(x, 0, 16, 16, 15, 15, 9, 15, 0, 8, 0, 15, 7);
    dueCells("blocks of 3 over 16 x 16", corner, 3, 3,
        0, 1, 1, 1, 1, 1, 3, 5, 0, 5,
        7, 0, 0, 0, 0, 0, 0, 0, 0,
        8, 0, 0, 0, 0, 0, 0, 0, 0,
        9, 0, 0, 0, 0, 0, 0, 0, 0);
    dueCells("blocks of 4 over 15 x 15",
        x -> Checks.make(x, 0, 15, 15, 14, 14, 9, 14, 0, 8), 3, 4,
        0, 0, 0, 0, 2, 0, 3,
        0, 0, 0, 0, 0, 0, 0, 0, 8, 0, 0, 0, 0, 0, 0, 0,
        0, 0, 0, 0, 0, 0, 0, 0, 0, 0, 9, 0, 0, 0, 0, 0);
  }

  private void fullForm() {
    edges.sentence(Edges.TERMS, "4 FULL: all R C VALUES, row by row.");
    dueCells("2 x 3", x -> Checks.make(x, 0, 2, 3, 0, 2, 4, 1, 0, 5), 4, 1, 0, 0, 4, 5, 0, 0);
    dueCells("3 x 2", x -> Checks.make(x, 0, 3, 2, 0, 1, 4, 2, 0, 5), 4, 1, 0, 4, 0, 0, 5, 0);
    dueCells("1 x 16", x -> Checks.make(x, 0, 1, 16, 0, 15, 4), 4, 1,
        0, 0, 0, 0, 0, 0, 0, 0, 0, 0, 0, 0, 0, 0, 0, 4);
    dueCells("16 x 1", x -> Checks.make(x, 0, 16, 1, 15, 0, 4), 4, 1,
        0, 0, 0, 0, 0, 0, 0, 0, 0, 0, 0, 0, 0, 0, 0, 4);
  }

  private void slantsForm() {
    edges.sentence(Edges.TERMS,
        "5 SLANTS: for each c - r of which a place is KEPT, rising: it, then the VALUES of all "
            + "R rows at column r + (c - r)");
    dueCells("3 x 3", x -> Checks.make(x, 0, 3, 3, 0, 0, 1, 2, 2, 3, 1, 0, 0, 0, 2, 6), 5, 1,
        -1, 0, 0, 0, 0, 1, 0, 3, 2, 6, 0, 0);
  }

  private void slantsBeyond() {
    edges.sentence(Edges.TERMS, "(0 beyond the TABLE)");
    Edges.Story tall = x -> Stories.all(x, 0, 3, 2);
    dueCells("3 x 2", tall, 5, 1,
        -2, 0, 0, 31, -1, 0, 21, 32, 0, 11, 22, 0, 1, 12, 0, 0);
    Edges.Story wide = x -> Stories.all(x, 0, 2, 3);
    dueCells("2 x 3", wide, 5, 1, -1, 0, 21, 0, 11, 22, 1, 12, 23, 2, 13, 0);
  }

  private void slantsOfOneRowAndColumn() {
    edges.sentence(Edges.TERMS, "(0 beyond the TABLE)");
    dueCells("1 x 16", x -> Checks.make(x, 0, 1, 16, 0, 15, 6, 0, 0, 5), 5, 1, 0, 5, 15, 6);
    dueCells("16 x 1", x -> Checks.make(x, 0, 16, 1, 15, 0, 6, 0, 0, 5), 5, 1,
        -15, 0, 0, 0, 0, 0, 0, 0, 0, 0, 0, 0, 0, 0, 0, 0, 6,
        0, 5, 0, 0, 0, 0, 0, 0, 0, 0, 0, 0, 0, 0, 0, 0, 0);
    dueCells("the corners of 16 x 16", x -> Checks.make(x, 0, 16, 16, 15, 0, 6, 0, 15, 5), 5, 1,
        -15, 0, 0, 0, 0, 0, 0, 0, 0, 0, 0, 0, 0, 0, 0, 0, 6,
        15, 5, 0, 0, 0, 0, 0, 0, 0, 0, 0, 0, 0, 0, 0, 0, 0);
  }

  private void formsOfNothing() {
    edges.sentence(Edges.TERMS, "What a FORM costs is how many cells it has.");
    Edges.Story empty = x -> x.table(0, 2, 5);
    dueCells("triples of nothing", empty, 0, 1);
    dueCells("by rows, nothing", empty, 1, 1, 0, 0, 0);
    dueCells("by columns, nothing", empty, 2, 1, 0, 0, 0, 0, 0, 0);
    dueCells("blocks of 1, nothing", empty, 3, 1, 0, 0, 0);
    dueCells("blocks of 2, nothing", empty, 3, 2, 0, 0);
    dueCells("blocks of 4, nothing", empty, 3, 4, 0, 0);
    dueCells("full, nothing", empty, 4, 1, 0, 0, 0, 0, 0, 0, 0, 0, 0, 0);
    dueCells("slants, nothing", empty, 5, 1);
  }

  private void formsOfOnePlace() {
    edges.sentence(Edges.TERMS, "What a FORM costs is how many cells it has.");
    Edges.Story one = x -> Checks.make(x, 0, 1, 1, 0, 0, 9);
    dueCells("triples", one, 0, 1, 0, 0, 9);
    dueCells("by rows", one, 1, 1, 0, 1, 0, 9);
    dueCells("by columns", one, 2, 1, 0, 1, 0, 9);
    dueCells("blocks of 1", one, 3, 1, 0, 1, 0, 9);
    dueCells("blocks of 2", one, 3, 2, 0, 1, 0, 9, 0, 0, 0);
    dueCells("full", one, 4, 1, 9);
    dueCells("slants", one, 5, 1, 0, 9);
  }

  // ---- promise 21

  private void costOfFullTables() {
    edges.sentence(21, "What a FORM costs.");
    KeptTables x = new KeptTables();
    Stories.everyOther(x, 0);
    int[] costs = {3 * 128, 17 + 256, 17 + 256, 17 + 256, 256, 15 * 17};
    for (int form = 0; form < 6; form++) {
      edges.due("every other place, form " + form, x.cost(0, form, 1), costs[form]);
    }
    edges.due("blocks of 2", x.cost(0, 3, 2), 9 + 64 + 256);
    edges.due("blocks of 3", x.cost(0, 3, 3), 7 + 36 + 36 * 9);
    edges.due("blocks of 4", x.cost(0, 3, 4), 5 + 16 + 256);
    x.table(1, 16, 16);
    for (int i = 0; i < 16; i++) {
      x.triple(0, i, 1L);
      x.triple(i, 0, 1L);
    }
    edges.due("the first row and column", x.join(1), 31);
    edges.due("all 31 slants", x.cost(1, 5, 0), 31 * 17);
    edges.due("the last cell of them", x.cell(1, 5, 0, 31 * 17 - 1), 0);
    edges.due("the last slant", x.cell(1, 5, 0, 30 * 17), 15);
    edges.due("its first value", x.cell(1, 5, 0, 30 * 17 + 1), 1);
    edges.due("none behind it", x.cell(1, 5, 0, 31 * 17), 0);
  }

  /** The last cell of each form of a full table is not 0, the one behind it is. */
  private void cellsToTheLast() {
    edges.sentence(23, "Cell i of a FORM.");
    KeptTables x = new KeptTables();
    Stories.everyOther(x, 0);
    int[] costs = {384, 273, 273, 273, 256, 255};
    int[] last = {16, 16, 16, 16, 16, 0};
    for (int form = 0; form < 6; form++) {
      int cost = costs[form];
      edges.due("the last cell of form " + form, x.cell(0, form, 1, cost - 1), last[form]);
      edges.due("the one behind it", x.cell(0, form, 1, cost), 0);
    }
    edges.due("the last place of triples, r", x.cell(0, 0, 1, 381), 15);
    edges.due("the last place of triples, c", x.cell(0, 0, 1, 382), 15);
    edges.due("n of by rows", x.cell(0, 1, 1, 16), 128);
    edges.due("the last row's number of by rows", x.cell(0, 1, 1, 15), 120);
    edges.due("the first column of by rows", x.cell(0, 1, 1, 17), 0);
    edges.due("the second column of by rows", x.cell(0, 1, 1, 18), 2);
    edges.due("the last column of by rows", x.cell(0, 1, 1, 16 + 128), 15);
    edges.due("the first value of by rows", x.cell(0, 1, 1, 16 + 129), 1);
    edges.due("the last row of by columns", x.cell(0, 2, 1, 16 + 128), 15);
    edges.due("the first value of by columns", x.cell(0, 2, 1, 16 + 129), 1);
    edges.due("the second value of by columns", x.cell(0, 2, 1, 16 + 130), 1);
    edges.due("the least slant", x.cell(0, 5, 1, 0), -14);
    edges.due("the greatest slant", x.cell(0, 5, 1, 14 * 17), 14);
    edges.due("its values, the first", x.cell(0, 5, 1, 14 * 17 + 1), 15);
    edges.due("its values, the second", x.cell(0, 5, 1, 14 * 17 + 2), 16);
    edges.due("its values, beyond", x.cell(0, 5, 1, 14 * 17 + 3), 0);
    edges.due("blocks of 4, the last", x.cell(0, 3, 4, 5 + 16 + 255), 16);
    edges.due("blocks of 4, behind it", x.cell(0, 3, 4, 5 + 16 + 256), 0);
    edges.due("blocks of 3, the last inside", x.cell(0, 3, 3, 7 + 36 + 35 * 9), 16);
    edges.due("blocks of 3, beyond", x.cell(0, 3, 3, 7 + 36 + 35 * 9 + 1), 0);
  }

  private void costWithoutTable() {
    edges.sentence(21, "-1; -2: the FORM, of 3 b");
    for (int t : new int[] {NONE, -1, 8, Edges.LOWEST, Edges.HIGHEST}) {
      for (int form = 0; form < 6; form++) {
        int asked = form;
        edges.same("cost(" + t + ", " + form + ")", Stories::crowd, x -> x.cost(t, asked, 1), -1);
      }
    }
  }

  private void costOutside() {
    edges.sentence(21, "-2: the FORM, of 3 b (1 .. 4");
    for (int form : new int[] {-1, 6, 7, Edges.LOWEST, Edges.HIGHEST}) {
      edges.same("form " + form, Stories::crowd, x -> x.cost(0, form, 1), -2);
    }
    for (int b : FAR) {
      edges.same("blocks of " + b, Stories::crowd, x -> x.cost(0, 3, b), -2);
      edges.same("form 6, b is " + b, Stories::crowd, x -> x.cost(0, 6, b), -2);
    }
    edges.same("blocks of 1", Stories::crowd, x -> x.cost(0, 3, 1), 9);
    edges.same("blocks of 4", Stories::crowd, x -> x.cost(0, 3, 4), 19);
  }

  private void costRefusedInOrder() {
    edges.sentence(21, "-1; -2: the FORM, of 3 b");
    edges.same("-1 ahead of -2, the FORM", Stories::crowd, x -> x.cost(NONE, 6, 1), -1);
    edges.same("-1 ahead of -2, b", Stories::crowd, x -> x.cost(8, 3, 0), -1);
  }

  private void blockSideCountsForNothing() {
    edges.sentence(21, "of others it counts for nothing");
    int[] costs = {9, 9, 10, 0, 6, 6};
    for (int form : new int[] {0, 1, 2, 4, 5}) {
      for (int b : FAR) {
        String what = "form " + form + ", b is " + b;
        edges.same(what, Stories::crowd, x -> x.cost(0, form, b), costs[form]);
        KeptTables x = new KeptTables();
        Stories.crowd(x);
        edges.due(what + ", cell 3", x.cell(0, form, b, 3), new long[] {0, 0, 3, 0, 0, 2}[form]);
      }
    }
  }

  // ---- promise 22

  private void cheapestOfLikeOnes() {
    edges.sentence(22, "The cheapest FORM, of like ones the least.");
    KeptTables x = new KeptTables();
    x.table(0, 3, 3);
    edges.due("triples and slants cost 0", x.cheapest(0, 1), 0);
    Checks.make(x, 0, 1, 1, 0, 0, 0);
    edges.due("full costs 1", x.cheapest(0, 1), 4);
    Checks.make(x, 0, 1, 3, 0, 1, 5);
    edges.due("triples 3, full 3, slants 2", x.cheapest(0, 1), 5);
    Checks.make(x, 0, 2, 2, 0, 1, 5);
    edges.due("triples 3, slants 3", x.cheapest(0, 1), 0);
    Checks.make(x, 0, 2, 2, 0, 1, 5, 1, 0, 5);
    edges.due("triples 6, full 4, slants 6", x.cheapest(0, 1), 4);
    Checks.make(x, 0, 2, 3, 0, 1, 5, 0, 2, 5, 1, 0, 1);
    edges.due("full 6, all others more", x.cheapest(0, 1), 4);
    Checks.make(x, 0, 2, 3, 0, 1, 5, 1, 0, 5);
    edges.due("triples 6, full 6, slants 6", x.cheapest(0, 1), 0);
    Checks.make(x, 0, 3, 3, 0, 2, 1, 1, 1, 1, 2, 0, 1);
    edges.due("triples 9, full 9, by rows and columns 10", x.cheapest(0, 1), 0);
    Checks.make(x, 0, 2, 16, 0, 0, 1, 0, 2, 1, 0, 4, 1);
    edges.due("triples 9, by rows 9, slants 9", x.cheapest(0, 1), 0);
    Checks.make(x, 0, 2, 4, 0, 0, 1, 0, 1, 1, 1, 0, 1, 1, 1, 1);
    edges.due("full 8, blocks of 2 7", x.cheapest(0, 2), 3);
    Checks.make(x, 0, 2, 3, 0, 0, 1, 0, 1, 1, 1, 0, 1, 1, 1, 1);
    edges.due("full 6, blocks of 2 7", x.cheapest(0, 2), 4);
    Checks.make(x, 0, 4, 2, 0, 0, 1, 0, 1, 1, 1, 0, 1, 1, 1, 1);
    edges.due("blocks of 2 8, full 8", x.cheapest(0, 2), 3);
    Checks.make(x, 0, 4, 4, 0, 0, 1, 1, 1, 1, 2, 2, 1, 3, 3, 1, 0, 1, 1, 1, 2, 1, 2, 3, 1);
    edges.due("slants 10", x.cheapest(0, 1), 5);
    Checks.make(x, 0, 4, 5, 0, 0, 1, 1, 0, 1, 2, 0, 1, 3, 0, 1, 0, 4, 1, 1, 4, 1, 2, 4, 1, 3, 4, 1);
    edges.due("full 20, by rows 21, by columns 22", x.cheapest(0, 1), 4);
  }

  private void cheapestByBlockSide() {
    edges.sentence(22, "The cheapest FORM, of like ones the least.");
    KeptTables x = new KeptTables();
    Stories.fullAbove(x, 0);
    edges.due("b 1: by rows 273, full 256", x.cheapest(0, 1), 4);
    edges.due("b 2: 9 + 32 + 128 cells", x.cheapest(0, 2), 3);
    edges.due("b 3: 7 + 18 + 162 cells", x.cheapest(0, 3), 3);
    edges.due("b 4: 5 + 8 + 128 cells", x.cheapest(0, 4), 3);
    Stories.everyOther(x, 0);
    edges.due("slants 255 of every other place", x.cheapest(0, 4), 5);
  }

  private void cheapestRefused() {
    edges.sentence(22, "-1; -2: b.");
    for (int b : FAR) {
      edges.same("b is " + b, Stories::crowd, x -> x.cheapest(0, b), -2);
      edges.same("b is " + b + ", nothing kept", Stories::crowd, x -> x.cheapest(7, b), -2);
      edges.same("-1 ahead of -2, b is " + b, Stories::crowd, x -> x.cheapest(NONE, b), -1);
    }
    for (int t : new int[] {NONE, -1, 8, Edges.LOWEST, Edges.HIGHEST}) {
      edges.same("cheapest(" + t + ", 1)", Stories::crowd, x -> x.cheapest(t, 1), -1);
    }
    edges.same("b is 1", Stories::crowd, x -> x.cheapest(7, 1), 0);
    edges.same("b is 4", Stories::crowd, x -> x.cheapest(7, 4), 0);
  }

  // ---- promise 23

  private void cellsOutside() {
    edges.sentence(23, "Cell i of a FORM.");
    for (int form = 0; form < 6; form++) {
      int asked = form;
      int cost = new int[] {12, 11, 11, 11, 4, 9}[form];
      for (int i : new int[] {-1, cost, cost + 1, 1000, Edges.LOWEST, Edges.HIGHEST}) {
        String what = "cell " + i + " of form " + form;
        edges.same(what, Stories::crowd, x -> x.cell(2, asked, 1, i), 0);
      }
    }
    int[] last = {4, 4, 4, 4, 4, 0};
    for (int form = 0; form < 6; form++) {
      int asked = form;
      int i = new int[] {11, 10, 10, 10, 3, 8}[form];
      edges.same("the last cell of form " + form, Stories::crowd,
          x -> x.cell(2, asked, 1, i), last[form]);
    }
  }

  private void cellsRefused() {
    edges.sentence(Edges.TERMS, "Calls that answer a long answer 0 then.");
    for (int form : new int[] {-1, 6, Edges.LOWEST, Edges.HIGHEST}) {
      for (int i : new int[] {0, 1, 2, 3}) {
        edges.same("23: form " + form, Stories::crowd, x -> x.cell(2, form, 1, i), 0);
      }
    }
    for (int b : FAR) {
      for (int i = 0; i < 20; i++) {
        int asked = i;
        edges.same("23: blocks of " + b, Stories::crowd, x -> x.cell(2, 3, b, asked), 0);
      }
    }
    for (int t : new int[] {NONE, -1, 8, Edges.LOWEST, Edges.HIGHEST}) {
      edges.same("23: table " + t, Stories::crowd, x -> x.cell(t, 4, 1, 0), 0);
    }
  }
}
