/** Sentences of "Terms" that all calls rest on. */
final class TermsEdges {
  private static final int NONE = Stories.NONE;

  /** A call with one number of a table left open. */
  private interface CallOf {
    long ask(KeptTables x, int t);
  }

  private final Edges edges;

  TermsEdges(Edges edges) {
    this.edges = edges;
  }

  void run() {
    eightTables();
    tablesOutside();
    tablesNotThere();
    targetsOutside();
    targetsNotThere();
    sidesOfTables();
    mostKept();
    fullStaysFull();
    zerosAreKept();
    othersHoldNothing();
    order();
    mostTriples();
    mostListed();
    useEmptiesTheTriples();
    useEmptiesTheList();
    emptiedForGood();
    othersLeaveTriplesAndList();
    inPlaceOfOneThatIsThere();
    madeOfItself();
    madeOfItselfRefused();
    asksChangeNothing();
    longAnswersRefused();
  }

  // ---- tables are 0 .. 7

  private void eightTables() {
    edges.sentence(Edges.TERMS, "TABLES are 0 .. 7;");
    KeptTables x = new KeptTables();
    for (int t = 0; t < 8; t++) {
      edges.due("table " + t, x.table(t, t + 1, 16 - t), 1);
      x.triple(t, 15 - t, t);
      edges.due("join(" + t + ")", x.join(t), 1);
    }
    for (int t = 0; t < 8; t++) {
      String want = (t + 1) + "x" + (16 - t) + ": " + t + "," + (15 - t) + "=" + t;
      edges.dueTable("all eight are there at once", x, t, want);
    }
  }

  /** The last ones inside, 0 and 7, answer; the first ones outside do not. */
  private void tablesOutside() {
    edges.sentence(Edges.TERMS, "-1 no such TABLE");
    for (int t : new int[] {-1, 8, Edges.LOWEST, Edges.HIGHEST, 16, -8}) {
      eachWithTable(t);
      same("table(" + t + ")", t, (x, u) -> x.table(u, 1, 1), -1);
    }
  }

  private void tablesNotThere() {
    edges.sentence(Edges.TERMS, "-1: TO is not 0 .. 7, the others are not there");
    eachWithTable(NONE);
    KeptTables x = new KeptTables();
    x.table(0, 1, 1);
    x.table(7, 1, 1);
    edges.due("add(0, 7, 7)", x.add(0, 7, 7, 1L, 1L), 0);
    edges.due("times(7, 0, 0)", x.times(7, 0, 0), 0);
    edges.due("slopes(7, 0, 7, 0)", x.slopes(7, 0, 7, 0, false), 0);
    edges.due("turn(7, 0)", x.turn(7, 0), 0);
  }

  private void same(String call, int t, CallOf asked, long want) {
    edges.same(call, Stories::crowd, x -> asked.ask(x, t), want);
  }

  private void eachWithTable(int t) {
    String n = " " + t;
    same("join" + n, t, (x, u) -> x.join(u), -1);
    for (int what = -1; what < 7; what++) {
      int wanted = what;
      same("count" + n, t, (x, u) -> x.count(u, wanted), -1);
    }
    same("at" + n, t, (x, u) -> x.at(u, 0, 0), 0);
    same("kept" + n, t, (x, u) -> x.kept(u, 0, 0), -1);
    same("place" + n, t, (x, u) -> x.place(u, 0), -1);
    same("set" + n, t, (x, u) -> x.set(u, 0, 0, 1L), -1);
    same("prune" + n, t, (x, u) -> x.prune(u), -1);
    same("add, a is" + n, t, (x, u) -> x.add(u, 2, 7, 1L, 1L), -1);
    same("add, b is" + n, t, (x, u) -> x.add(2, u, 7, 1L, 1L), -1);
    same("times, a is" + n, t, (x, u) -> x.times(u, 2, 7), -1);
    same("times, b is" + n, t, (x, u) -> x.times(2, u, 7), -1);
    same("each, a is" + n, t, (x, u) -> x.each(u, 2, 7), -1);
    same("each, b is" + n, t, (x, u) -> x.each(2, u, 7), -1);
    same("mask, a is" + n, t, (x, u) -> x.mask(u, 2, 7, true), -1);
    same("mask, b is" + n, t, (x, u) -> x.mask(2, u, 7, false), -1);
    same("turn, a is" + n, t, (x, u) -> x.turn(u, 7), -1);
    same("rows, a is" + n, t, (x, u) -> x.rows(u, 7), -1);
    same("slopes, a is" + n, t, (x, u) -> x.slopes(u, 2, 2, 7, true), -1);
    same("slopes, b is" + n, t, (x, u) -> x.slopes(2, u, 2, 7, true), -1);
    same("slopes, c is" + n, t, (x, u) -> x.slopes(2, 2, u, 7, false), -1);
    same("sum" + n, t, (x, u) -> x.sum(u, true, 0), 0);
    same("cost" + n, t, (x, u) -> x.cost(u, 4, 1), -1);
    same("cheapest" + n, t, (x, u) -> x.cheapest(u, 1), -1);
    same("cell" + n, t, (x, u) -> x.cell(u, 4, 1, 0), 0);
    same("walks" + n, t, (x, u) -> x.walks(u, 0, 0, 0), 0);
    same("way" + n, t, (x, u) -> x.way(u, 0, 0), -1);
    same("ring" + n, t, (x, u) -> x.ring(u, 0), -1);
    same("rings" + n, t, (x, u) -> x.ring(u, -1), -1);
    same("sort" + n, t, (x, u) -> x.sort(u), -1);
    same("narrow" + n, t, (x, u) -> x.narrow(u), -1);
    same("width" + n, t, (x, u) -> x.width(u), -1);
  }

  private void targetsOutside() {
    edges.sentence(Edges.TERMS, "-1: TO is not 0 .. 7");
    for (int to : new int[] {-1, 8, Edges.LOWEST, Edges.HIGHEST}) {
      String n = ", TO is " + to;
      same("add" + n, to, (x, u) -> x.add(2, 2, u, 1L, 1L), -1);
      same("times" + n, to, (x, u) -> x.times(2, 2, u), -1);
      same("each" + n, to, (x, u) -> x.each(2, 2, u), -1);
      same("mask" + n, to, (x, u) -> x.mask(2, 2, u, true), -1);
      same("turn" + n, to, (x, u) -> x.turn(2, u), -1);
      same("rows" + n, to, (x, u) -> x.rows(2, u), -1);
      same("slopes by a" + n, to, (x, u) -> x.slopes(2, 2, 2, u, true), -1);
      same("slopes by b" + n, to, (x, u) -> x.slopes(2, 2, 2, u, false), -1);
    }
  }

  /** TO need not be there: then it is from now on. */
  private void targetsNotThere() {
    edges.sentence(Edges.TERMS, "What makes a TABLE into TO puts it there");
    for (int to : new int[] {0, 1, 5, 7}) {
      String n = ", TO is " + to;
      made("add" + n, to, (x, u) -> x.add(2, 2, u, 1L, 0L), "2x1: 0,0=1 1,0=3");
      made("times" + n, to, (x, u) -> x.times(2, 3, u), "2x1: 0,0=2 1,0=6");
      made("each" + n, to, (x, u) -> x.each(2, 2, u), "2x1: 0,0=1 1,0=9");
      made("mask" + n, to, (x, u) -> x.mask(2, 2, u, true), "2x1: 0,0=1 1,0=3");
      made("turn" + n, to, (x, u) -> x.turn(2, u), "1x2: 0,0=1 0,1=3");
      made("rows" + n, to, (x, u) -> x.rows(2, u), "1x1: 0,0=3");
      made("slopes by a" + n, to, (x, u) -> x.slopes(2, 3, 2, u, true), "2x1: 0,0=2 1,0=6");
      made("slopes by b" + n, to, (x, u) -> x.slopes(2, 3, 2, u, false), "1x1: 0,0=10");
    }
  }

  /** Makes a table of table 2, that is 2 x 1, and table 3, that is 1 x 1, where none is there. */
  private void made(String call, int to, CallOf asked, String want) {
    KeptTables x = new KeptTables();
    Checks.make(x, 2, 2, 1, 0, 0, 1, 1, 0, 3);
    Checks.make(x, 3, 1, 1, 0, 0, 2);
    x.list(1);
    edges.due(call + ", not there yet", x.count(to, 0), -1);
    edges.due(call, asked.ask(x, to), want.split(" ").length - 1);
    edges.dueTable(call, x, to, want);
  }

  // ---- sizes and places

  private void sidesOfTables() {
    edges.sentence(Edges.TERMS, "each that is there has 1 to 16 rows and columns");
    for (int side : new int[] {1, 2, 15, 16}) {
      KeptTables x = new KeptTables();
      edges.due("table(0, " + side + ", 1)", x.table(0, side, 1), 1);
      edges.due("table(7, 1, " + side + ")", x.table(7, 1, side), 1);
      edges.due("rows", x.count(0, 0), side);
      edges.due("columns", x.count(7, 1), side);
    }
    for (int side : new int[] {0, 17, -1, 32, Edges.LOWEST, Edges.HIGHEST}) {
      edges.same("rows " + side, Stories::crowd, x -> x.table(0, side, 1), -2);
      edges.same("columns " + side, Stories::crowd, x -> x.table(0, 1, side), -2);
      edges.same("rows and columns " + side, Stories::crowd, x -> x.table(NONE, side, side), -2);
    }
  }

  private void mostKept() {
    edges.sentence(Edges.TERMS, "KEPT places (r, c), 128 at most");
    KeptTables x = new KeptTables();
    Stories.fullAbove(x, 0);
    edges.due("count(0, 2)", x.count(0, 2), 128);
    edges.due("the last place", x.place(0, 127), 7 * 16 + 15);
    edges.due("none behind it", x.place(0, 128), -2);
    edges.due("kept(0, 7, 15)", x.kept(0, 7, 15), 127);
    edges.due("kept(0, 8, 0)", x.kept(0, 8, 0), -3);
    x.triple(8, 0, 1L);
    edges.due("join of the 129th", x.join(0), -4);
    edges.due("count(0, 2) behind it", x.count(0, 2), 128);
    x.set(0, 3, 3, 0L);
    edges.due("prune of one", x.prune(0), 1);
    edges.due("127 are left", x.count(0, 2), 127);
    x.triple(8, 0, 1L);
    edges.due("join of the 128th", x.join(0), 128);
    edges.due("at(0, 8, 0)", x.at(0, 8, 0), 1);
  }

  /** What makes no place more goes with a full table as with any other one. */
  private void fullStaysFull() {
    edges.sentence(Edges.TERMS, "KEPT places (r, c), 128 at most");
    KeptTables x = new KeptTables();
    Stories.fullAbove(x, 0);
    x.triple(7, 15, 5L);
    edges.due("join at a place that is kept", x.join(0), 128);
    edges.due("at(0, 7, 15)", x.at(0, 7, 15), 21);
    edges.due("set", x.set(0, 7, 15, 16L), 1);
    edges.due("turn", x.turn(0, 1), 128);
    edges.due("at(1, 15, 7)", x.at(1, 15, 7), 16);
    edges.due("add to itself", x.add(0, 0, 2, 1L, 1L), 128);
    edges.due("each", x.each(0, 2, 2), 128);
    edges.due("at(2, 7, 15)", x.at(2, 7, 15), 16 * 32);
    edges.due("mask in", x.mask(0, 2, 3, true), 128);
    edges.due("mask out", x.mask(0, 2, 3, false), 0);
    edges.due("sum of a row", x.sum(0, true, 7), 136);
    edges.due("sum of a column", x.sum(0, false, 15), 128);
    edges.due("sum of an empty row", x.sum(0, true, 8), 0);
    edges.due("slopes", x.slopes(0, 0, 0, 4, true), 128);
    edges.due("prune", x.prune(0), 0);
  }

  private void zerosAreKept() {
    edges.sentence(Edges.TERMS, "with a VALUE each (0, too)");
    KeptTables x = new KeptTables();
    Checks.make(x, 0, 2, 2, 0, 1, 0, 1, 0, 5, 1, 0, -5);
    edges.due("count(0, 2)", x.count(0, 2), 2);
    edges.due("count(0, 3)", x.count(0, 3), 2);
    edges.due("kept(0, 0, 1)", x.kept(0, 0, 1), 0);
    edges.due("kept(0, 1, 0)", x.kept(0, 1, 0), 1);
    edges.due("place(0, 1)", x.place(0, 1), 16);
    edges.due("set", x.set(0, 0, 1, 3L), 1);
    edges.due("count(0, 3), one less", x.count(0, 3), 1);
    edges.due("set to 0", x.set(0, 0, 1, 0L), 1);
    edges.due("kept(0, 0, 1), still", x.kept(0, 0, 1), 0);
  }

  private void othersHoldNothing() {
    edges.sentence(Edges.TERMS, "all others hold 0");
    KeptTables x = new KeptTables();
    Stories.fullAbove(x, 0);
    for (int c = 0; c < 16; c++) {
      edges.due("at(0, 7, c)", x.at(0, 7, c), c + 1);
      edges.due("at(0, 8, c)", x.at(0, 8, c), 0);
      edges.due("at(0, 15, c)", x.at(0, 15, c), 0);
    }
    Checks.make(x, 1, 2, 2, 0, 0, 5, 1, 1, 6);
    x.set(1, 0, 0, 0L);
    x.prune(1);
    edges.due("at(1, 0, 0), kept no more", x.at(1, 0, 0), 0);
    x.triple(0, 0, 2L);
    x.join(1);
    edges.due("at(1, 0, 0), kept again", x.at(1, 0, 0), 2);
  }

  private void order() {
    edges.sentence(Edges.TERMS, "The ORDER of KEPT places: by rows, then by columns.");
    KeptTables x = new KeptTables();
    Checks.make(x, 0, 16, 16, 15, 0, 1, 0, 15, 2, 1, 0, 3, 14, 15, 4, 0, 0, 5, 15, 15, 6);
    int[] places = {0, 15, 16, 14 * 16 + 15, 15 * 16, 15 * 16 + 15};
    for (int k = 0; k < places.length; k++) {
      edges.due("place(0, " + k + ")", x.place(0, k), places[k]);
      edges.due("kept of it", x.kept(0, places[k] / 16, places[k] % 16), k);
    }
  }

  // ---- THE TRIPLES and THE LIST

  private void mostTriples() {
    edges.sentence(Edges.TERMS, "THE TRIPLES (r, c, a VALUE), 64 at most");
    KeptTables x = new KeptTables();
    x.table(0, 16, 16);
    for (int i = 0; i < 64; i++) {
      edges.due("triple " + i, x.triple(i / 16, i % 16, i), i + 1);
    }
    edges.due("count(0, 4)", x.count(0, 4), 64);
    edges.due("the 65th", x.triple(4, 0, 1L), -4);
    edges.due("join(0)", x.join(0), 64);
    edges.due("the first one", x.at(0, 0, 1), 1);
    edges.due("the last one", x.at(0, 3, 15), 63);
    edges.due("the 65th has not come", x.kept(0, 4, 0), -3);
    edges.due("the first one again", x.triple(4, 0, 1L), 1);
  }

  private void mostListed() {
    edges.sentence(Edges.TERMS, "THE LIST of numbers 0 .. 15, 16 at most");
    KeptTables x = new KeptTables();
    x.table(0, 16, 16);
    for (int i = 0; i < 16; i++) {
      edges.due("list(15)", x.list(i % 2 == 0 ? 15 : 0), i + 1);
    }
    edges.due("the 17th", x.list(0), -4);
    edges.due("count(0, 5)", x.count(0, 5), 16);
    edges.dueList("all", x, 15, 0, 15, 0, 15, 0, 15, 0, 15, 0, 15, 0, 15, 0, 15, 0);
    edges.due("rows", x.rows(0, 0), 0);
    edges.due("the first one again", x.list(0), 1);
  }

  private void useEmptiesTheTriples() {
    edges.sentence(Edges.TERMS,
        "what uses them empties them (also when it is refused by -3, -4)");
    Edges.Story without = x -> {
      Stories.crowd(x);
      x.table(7, 16, 16);
      x.join(7);
      x.table(7, 1, 1);
    };
    edges.leaves("join, -3", Stories::crowd, x -> x.join(0), -3, without);
    edges.leaves("join, -4", Stories::crowd, x -> x.join(3), -4, without);
    edges.same("join, -1", Stories::crowd, x -> x.join(NONE), -1);
    KeptTables x = new KeptTables();
    Stories.crowd(x);
    edges.due("join", x.join(4), 3);
    edges.due("none is left", x.count(0, 4), 0);
    edges.due("join of none", x.join(4), 3);
    edges.dueTable("nothing is added twice", x, 4, "16x16: 0,0=9 8,0=7 15,15=8");
  }

  private void useEmptiesTheList() {
    edges.sentence(Edges.TERMS,
        "what uses them empties them (also when it is refused by -3, -4)");
    Edges.Story without = x -> {
      Stories.crowd(x);
      x.rows(0, 7);
      x.table(7, 1, 1);
    };
    edges.leaves("rows, -3", Stories::crowd, x -> x.rows(7, 0), -3, without);
    edges.same("rows, -1", Stories::crowd, x -> x.rows(NONE, 0), -1);
    Edges.Story many = x -> {
      Stories.fullAbove(x, 0);
      Stories.listTimes(x, 7, 9);
    };
    edges.leaves("rows, -4", many, x -> x.rows(0, 0), -4, x -> Stories.fullAbove(x, 0));
    KeptTables x = new KeptTables();
    Stories.crowd(x);
    edges.due("rows", x.rows(0, 7), 4);
    edges.due("none is left", x.count(0, 5), 0);
    edges.due("listed(0)", x.listed(0), -2);
    edges.due("rows of none", x.rows(0, 7), -3);
  }

  /** What has been emptied does not count again behind what comes later. */
  private void emptiedForGood() {
    edges.sentence(Edges.TERMS,
        "what uses them empties them (also when it is refused by -3, -4)");
    KeptTables x = new KeptTables();
    Checks.make(x, 0, 1, 1, 0, 0, 2);
    Stories.listTimes(x, 15, 16);
    edges.due("rows, -3", x.rows(0, 1), -3);
    x.list(0);
    edges.due("width of one node", x.width(0), 0);
    edges.due("rows of one row", x.rows(0, 1), 1);
    edges.dueTable("rows of one row", x, 1, "1x1: 0,0=2");
    Stories.fullTriples(x);
    edges.due("join, -3", x.join(0), -3);
    x.triple(0, 0, 5L);
    edges.due("join of one", x.join(0), 1);
    edges.dueTable("join of one", x, 0, "1x1: 0,0=7");
    x.table(2, 16, 16);
    x.narrow(2);
    x.sort(2);
    x.table(3, 2, 2);
    edges.due("sort of two nodes behind sixteen", x.sort(3), 2);
    edges.due("width of two nodes behind sixteen", x.width(3), 0);
    edges.due("rows of two rows behind sixteen", x.rows(3, 3), 0);
  }

  private void othersLeaveTriplesAndList() {
    edges.sentence(Edges.TERMS, "are collected; what uses them empties them");
    stays("table", x -> x.table(NONE, 3, 3));
    stays("set", x -> x.set(0, 0, 0, 1L));
    stays("prune", x -> x.prune(0));
    stays("add", x -> x.add(0, 0, 1, 1L, 1L));
    stays("add, -3", x -> x.add(0, 1, 1, 1L, 1L));
    stays("add, -4", x -> x.add(3, 4, 1, 1L, 1L));
    stays("times", x -> x.times(0, 1, 1));
    stays("times, -3", x -> x.times(0, 0, 1));
    stays("each", x -> x.each(0, 0, 1));
    stays("mask", x -> x.mask(0, 0, 1, false));
    stays("turn", x -> x.turn(0, 0));
    stays("slopes", x -> x.slopes(2, 2, 2, 0, true));
    stays("width, -3", x -> x.width(2));
    stays("sort, -3", x -> x.sort(2));
    stays("narrow, -3", x -> x.narrow(0));
    KeptTables x = new KeptTables();
    Stories.crowd(x);
    x.rows(0, 7);
    edges.due("rows leaves THE TRIPLES", x.count(0, 4), 2);
    x.sort(6);
    edges.due("sort leaves THE TRIPLES", x.count(0, 4), 2);
    x.narrow(2);
    edges.due("narrow leaves THE TRIPLES", x.count(0, 4), 2);
    x.join(0);
    edges.dueList("join leaves THE LIST", x, 0, 1);
  }

  private void stays(String call, Edges.Call asked) {
    KeptTables x = new KeptTables();
    Stories.crowd(x);
    asked.ask(x);
    edges.due("THE TRIPLES behind " + call, x.count(2, 4), 2);
    edges.dueList("THE LIST behind " + call, x, 1, 0, 1);
  }

  // ---- TO

  private void inPlaceOfOneThatIsThere() {
    edges.sentence(Edges.TERMS,
        "What makes a TABLE into TO puts it there in place of one that is there");
    // 3 is full: none of its 128 places, nor of its sizes, is left.
    instead("add", x -> x.add(0, 0, 3, 1L, 1L), "2x3: 0,0=6 0,2=0 1,1=-8");
    instead("times", x -> x.times(0, 1, 3), "2x2: 0,0=0 0,1=15");
    instead("each", x -> x.each(0, 0, 3), "2x3: 0,0=9 0,2=0 1,1=16");
    instead("mask", x -> x.mask(0, 0, 3, true), "2x3: 0,0=3 0,2=0 1,1=-4");
    instead("turn", x -> x.turn(0, 3), "3x2: 0,0=3 1,1=-4 2,0=0");
    instead("rows", x -> x.rows(0, 3), "3x3: 0,1=-4 1,0=3 1,2=0 2,1=-4");
    instead("slopes", x -> x.slopes(2, 2, 2, 3, true), "2x2: 0,0=5 0,1=11 1,0=11 1,1=25");
    instead("table", x -> x.table(3, 2, 16), "2x16:");
  }

  private void instead(String call, Edges.Call asked, String want) {
    KeptTables x = new KeptTables();
    Stories.crowd(x);
    long answer = asked.ask(x);
    edges.due(call, answer, call.equals("table") ? 1 : want.split(" ").length - 1);
    edges.dueTable(call, x, 3, want);
    edges.due("at(3, 0, 15) behind " + call, x.at(3, 0, 15), 0);
    x.table(5, x.count(3, 0), x.count(3, 1));
    x.add(3, 5, 5, 1L, 1L);
    edges.dueTable(call + ", handed on", x, 5, want);
  }

  private void madeOfItself() {
    edges.sentence(Edges.TERMS, "TO may be one of those that it is made of.");
    String doubled = "2x2: 0,0=3 0,1=6 1,0=9 1,1=12";
    itself("add into a", x -> x.add(2, 0, 2, 2L, 1L), 2, "2x2: 0,0=3 0,1=4 1,0=6 1,1=10");
    itself("add into b", x -> x.add(0, 2, 2, 1L, 2L), 2, "2x2: 0,0=3 0,1=4 1,0=6 1,1=10");
    itself("add into both", x -> x.add(2, 2, 2, 1L, 2L), 2, doubled);
    itself("times into a", x -> x.times(2, 0, 2), 2, "2x2: 0,0=1 0,1=4 1,0=3 1,1=8");
    itself("times into b", x -> x.times(0, 2, 2), 2, "2x2: 0,0=1 0,1=2 1,0=6 1,1=8");
    itself("times into both", x -> x.times(2, 2, 2), 2, "2x2: 0,0=7 0,1=10 1,0=15 1,1=22");
    itself("each into a", x -> x.each(2, 0, 2), 2, "2x2: 0,0=1 1,1=8");
    itself("each into b", x -> x.each(0, 2, 2), 2, "2x2: 0,0=1 1,1=8");
    itself("each into both", x -> x.each(2, 2, 2), 2, "2x2: 0,0=1 0,1=4 1,0=9 1,1=16");
    itself("mask into a", x -> x.mask(2, 0, 2, false), 2, "2x2: 0,1=2 1,0=3");
    itself("mask into b", x -> x.mask(2, 0, 0, false), 0, "2x2: 0,1=2 1,0=3");
    itself("mask into both, in", x -> x.mask(2, 2, 2, true), 2, "2x2: 0,0=1 0,1=2 1,0=3 1,1=4");
    itself("mask into both, out", x -> x.mask(2, 2, 2, false), 2, "2x2:");
    itself("turn", x -> x.turn(2, 2), 2, "2x2: 0,0=1 0,1=3 1,0=2 1,1=4");
    itself("turn of a row", x -> x.turn(1, 1), 1, "2x1: 0,0=5 1,0=6");
    itself("rows", x -> x.rows(2, 2), 2, "3x2: 0,0=3 0,1=4 1,0=1 1,1=2 2,0=3 2,1=4");
    String squares = "2x2: 0,0=1 0,1=0 1,0=0 1,1=4";
    itself("slopes by a into a", x -> x.slopes(2, 0, 0, 2, true), 2, squares);
    itself("slopes by a into b", x -> x.slopes(0, 2, 0, 2, true), 2, "2x2: 0,0=1 1,1=8");
    itself("slopes by a into c", x -> x.slopes(0, 0, 2, 2, true), 2, "2x2: 0,0=1 1,1=8");
    itself("slopes by b into a", x -> x.slopes(2, 0, 0, 2, false), 2, "2x2: 0,0=1 1,1=8");
    itself("slopes by b into b", x -> x.slopes(0, 2, 0, 2, false), 2, squares);
    itself("slopes by b into c", x -> x.slopes(0, 0, 2, 2, false), 2, "2x2: 0,0=1 1,1=8");
    itself("slopes by a of itself", x -> x.slopes(2, 2, 2, 2, true), 2,
        "2x2: 0,0=5 0,1=11 1,0=11 1,1=25");
    itself("slopes by b of itself", x -> x.slopes(2, 2, 2, 2, false), 2,
        "2x2: 0,0=10 0,1=14 1,0=14 1,1=20");
  }

  /** Table 0 is 2 x 2 with 1 and 2 on its slant, 1 is one row, 2 is 2 x 2 with 1, 2, 3, 4. */
  private void itself(String call, Edges.Call asked, int to, String want) {
    KeptTables x = new KeptTables();
    Checks.make(x, 0, 2, 2, 0, 0, 1, 1, 1, 2);
    Checks.make(x, 1, 1, 2, 0, 0, 5, 0, 1, 6);
    Checks.make(x, 2, 2, 2, 0, 0, 1, 0, 1, 2, 1, 0, 3, 1, 1, 4);
    Stories.listOf(x, 1, 0, 1);
    edges.due(call, asked.ask(x), want.split(" ").length - 1);
    edges.dueTable(call, x, to, want);
    if (to != 0) {
      edges.dueTable("table 0 behind " + call, x, 0, "2x2: 0,0=1 1,1=2");
    }
  }

  private void madeOfItselfRefused() {
    edges.sentence(Edges.TERMS, "Refused, and nothing is changed but as told");
    edges.same("add into a, -3", Stories::crowd, x -> x.add(0, 1, 0, 2L, 2L), -3);
    edges.same("add into b, -3", Stories::crowd, x -> x.add(0, 1, 1, 2L, 2L), -3);
    edges.same("add into a, -4", Stories::crowd, x -> x.add(3, 4, 3, 2L, 2L), -4);
    edges.same("add into b, -4", Stories::crowd, x -> x.add(3, 4, 4, 2L, 2L), -4);
    edges.same("times into a, -3", Stories::crowd, x -> x.times(0, 2, 0), -3);
    edges.same("each into b, -3", Stories::crowd, x -> x.each(0, 2, 2), -3);
    edges.same("mask into a, -3", Stories::crowd, x -> x.mask(0, 2, 0, true), -3);
    edges.same("slopes into c, -3", Stories::crowd, x -> x.slopes(0, 1, 0, 0, true), -3);
    Edges.Story wide = x -> {
      Stories.fullAbove(x, 0);
      x.turn(0, 1);
    };
    edges.same("times into a, -4", wide, x -> x.times(1, 0, 1), -4);
    edges.same("times into b, -4", wide, x -> x.times(1, 0, 0), -4);
  }

  // ---- refused and not refused

  /** Calls that only ask leave everything as it is, answered or refused. */
  private void asksChangeNothing() {
    edges.sentence(Edges.TERMS, "Refused, and nothing is changed but as told");
    edges.same("listed", Stories::crowd, x -> x.listed(1), 0);
    edges.same("listed, -2", Stories::crowd, x -> x.listed(3), -2);
    edges.same("count", Stories::crowd, x -> x.count(3, 3), 0);
    edges.same("count, -2", Stories::crowd, x -> x.count(3, 6), -2);
    edges.same("at", Stories::crowd, x -> x.at(3, 7, 15), 16);
    edges.same("kept", Stories::crowd, x -> x.kept(3, 7, 15), 127);
    edges.same("kept, -3", Stories::crowd, x -> x.kept(3, 8, 15), -3);
    edges.same("place", Stories::crowd, x -> x.place(3, 16), 16);
    edges.same("place, -2", Stories::crowd, x -> x.place(3, 128), -2);
    edges.same("sum", Stories::crowd, x -> x.sum(3, false, 0), 8);
    for (int form = 0; form < 6; form++) {
      int asked = form;
      edges.same("cost " + form, Stories::crowd, x -> x.cost(7, asked, 1),
          new int[] {0, 2, 2, 2, 1, 0}[form]);
      edges.same("cell of " + form, Stories::crowd, x -> x.cell(0, asked, 1, 2),
          new int[] {3, 3, 2, 3, 0, -4}[form]);
      edges.same("cost " + form, Stories::crowd, x -> x.cost(3, asked, 1),
          new int[] {384, 273, 273, 273, 256, 23 * 17}[form]);
    }
    edges.same("cheapest", Stories::crowd, x -> x.cheapest(3, 4), 3);
    edges.same("walks", Stories::crowd, x -> x.walks(2, 0, 1, 2), 10);
    edges.same("way", Stories::crowd, x -> x.way(6, 0, 2), 2);
    edges.same("way, -3", Stories::crowd, x -> x.way(6, 2, 0), -3);
    edges.same("ring", Stories::crowd, x -> x.ring(6, 2), 2);
    edges.same("rings", Stories::crowd, x -> x.ring(6, -1), 3);
    edges.same("width, -3", Stories::crowd, x -> x.width(6), -3);
    edges.same("sort, -3", Stories::crowd, x -> x.sort(2), -3);
    edges.same("narrow, -3", Stories::crowd, x -> x.narrow(0), -3);
  }

  private void longAnswersRefused() {
    edges.sentence(Edges.TERMS, "Calls that answer a long answer 0 then.");
    for (int far : new int[] {-1, 2, 3, 15, 16, Edges.LOWEST, Edges.HIGHEST}) {
      edges.same("at, r is " + far, Stories::crowd, x -> x.at(2, far, 0), 0);
      edges.same("at, c is " + far, Stories::crowd, x -> x.at(2, 0, far), 0);
      edges.same("sum, row " + far, Stories::crowd, x -> x.sum(2, true, far), 0);
      edges.same("sum, column " + far, Stories::crowd, x -> x.sum(2, false, far), 0);
      edges.same("walks, a is " + far, Stories::crowd, x -> x.walks(2, far, 0, 1), 0);
      edges.same("walks, b is " + far, Stories::crowd, x -> x.walks(2, 0, far, 1), 0);
      edges.same("walks, both are " + far, Stories::crowd, x -> x.walks(2, far, far, 0), 0);
    }
    for (int far : new int[] {-1, 6, Edges.LOWEST, Edges.HIGHEST}) {
      edges.same("cell, form " + far, Stories::crowd, x -> x.cell(2, far, 1, 0), 0);
      edges.same("cell " + far, Stories::crowd, x -> x.cell(2, 4, 1, far), 0);
    }
  }
}
