/** Sentences of promises 1 to 12. */
final class PlacesEdges {
  private static final int NONE = Stories.NONE;
  /** Not a line of any table, however large. */
  private static final int[] NO_LINE = {-1, 16, -16, 17, 256, Edges.LOWEST, Edges.HIGHEST};

  private final Edges edges;

  PlacesEdges(Edges edges) {
    this.edges = edges;
  }

  void run() {
    noTables();
    objectsApart();
    calls512();
    tableWithNothing();
    tableAfterALargerOne();
    tableNumberOutside();
    tableSizeOutside();
    tableRefusedInOrder();
    triplesCounted();
    triplesOfAnyPlace();
    tripleOutside();
    tripleWithoutRoom();
    listCounted();
    listOutside();
    listWithoutRoom();
    listedFromTheFirst();
    listedBeyond();
    joinAddsUp();
    joinOfNone();
    joinWithoutTable();
    joinOutside();
    joinWithoutRoom();
    joinOfWhatIsKept();
    joinRefusedInOrder();
    counts();
    countsOfEmptyAndFull();
    countWithoutTable();
    countOutside();
    atPlaces();
    keptNumbers();
    keptOutside();
    keptNot();
    placeNumbers();
    placeOutside();
    setHolds();
    setOutside();
    setNotKept();
    prunes();
    pruneOfAll();
    pruneWithoutTable();
  }

  // ---- promise 1

  private void noTables() {
    edges.sentence(1, "No TABLES.");
    KeptTables x = new KeptTables();
    for (int t = 0; t < 8; t++) {
      edges.due("count(" + t + ", 0)", x.count(t, 0), -1);
      edges.due("join(" + t + ")", x.join(t), -1);
      edges.due("prune(" + t + ")", x.prune(t), -1);
      edges.due("turn(" + t + ", 0)", x.turn(t, 0), -1);
      edges.due("cost(" + t + ", 4, 1)", x.cost(t, 4, 1), -1);
      edges.due("ring(" + t + ", -1)", x.ring(t, -1), -1);
    }
    edges.due("listed(0)", x.listed(0), -2);
    x.table(0, 16, 16);
    edges.due("no triples", x.count(0, 4), 0);
    edges.due("nothing listed", x.count(0, 5), 0);
    edges.due("join of no triples", x.join(0), 0);
  }

  private void objectsApart() {
    edges.sentence(1, "No TABLES.");
    KeptTables x = new KeptTables();
    KeptTables y = new KeptTables();
    Stories.crowd(x);
    KeptTables z = new KeptTables();
    for (int t = 0; t < 8; t++) {
      edges.due("an older object", y.count(t, 0), -1);
      edges.due("a newer object", z.count(t, 0), -1);
    }
    y.table(0, 1, 1);
    edges.due("triples of an older object", y.count(0, 4), 0);
    edges.due("list of an older object", y.count(0, 5), 0);
    edges.dueTable("the first object", x, 0, "2x3: 0,0=3 0,2=0 1,1=-4");
  }

  private void calls512() {
    edges.sentence(Edges.WHAT_IT_IS,
        "An object is used for at most 512 calls after it has been made");
    KeptTables x = new KeptTables();
    x.table(0, 16, 16);
    for (int i = 0; i < 255; i++) {
      edges.due("triple " + i, x.triple(i % 16, i % 16, 1L), 1);
      edges.due("join " + i, x.join(0), Math.min(16, i + 1));
    }
    edges.due("the 512th call", x.sum(0, true, 15), 15);
    // What these answer is free, but none may throw.
    Stories.crowd(x);
    x.times(3, 3, 3);
  }

  // ---- promise 2

  private void tableWithNothing() {
    edges.sentence(2, "A TABLE with nothing KEPT: 1.");
    int[][] sizes = {{1, 1}, {1, 16}, {16, 1}, {16, 16}, {2, 15}, {15, 2}};
    for (int[] size : sizes) {
      KeptTables x = new KeptTables();
      edges.due("table", x.table(7, size[0], size[1]), 1);
      edges.dueTable("table", x, 7, size[0] + "x" + size[1] + ":");
      edges.due("no place", x.place(7, 0), -2);
      edges.due("the last place is there", x.kept(7, size[0] - 1, size[1] - 1), -3);
      edges.due("the next row is not", x.kept(7, size[0], 0), -2);
      edges.due("the next column is not", x.kept(7, 0, size[1]), -2);
    }
  }

  /** Nothing of a table that was there before shows again, however the sizes change. */
  private void tableAfterALargerOne() {
    edges.sentence(2, "A TABLE with nothing KEPT: 1.");
    KeptTables x = new KeptTables();
    Stories.fullAbove(x, 0);
    edges.due("table(0, 1, 1)", x.table(0, 1, 1), 1);
    edges.dueTable("a small one in place of a full one", x, 0, "1x1:");
    edges.due("at(0, 0, 0)", x.at(0, 0, 0), 0);
    edges.due("table(0, 16, 16)", x.table(0, 16, 16), 1);
    edges.dueTable("a large one in place of it", x, 0, "16x16:");
    x.triple(0, 0, 1L);
    x.triple(7, 15, 2L);
    edges.due("join(0)", x.join(0), 2);
    edges.dueTable("values begin from 0", x, 0, "16x16: 0,0=1 7,15=2");
    edges.due("sum of row 0", x.sum(0, true, 0), 1);
  }

  private void tableNumberOutside() {
    edges.sentence(2, "-1: t is not 0 .. 7");
    for (int t : new int[] {-1, 8, -8, 9, Edges.LOWEST, Edges.HIGHEST}) {
      edges.same("table(" + t + ")", Stories::crowd, x -> x.table(t, 2, 2), -1);
    }
    KeptTables x = new KeptTables();
    edges.due("table(0)", x.table(0, 2, 2), 1);
    edges.due("table(7)", x.table(7, 2, 2), 1);
  }

  private void tableSizeOutside() {
    edges.sentence(2, "-2.");
    for (int n : new int[] {0, -1, 17, 18, 32, Edges.LOWEST, Edges.HIGHEST}) {
      edges.same("rows " + n, Stories::crowd, x -> x.table(3, n, 16), -2);
      edges.same("columns " + n, Stories::crowd, x -> x.table(3, 16, n), -2);
      edges.same("rows " + n + ", none is there", Stories::crowd, x -> x.table(NONE, n, 1), -2);
    }
  }

  private void tableRefusedInOrder() {
    edges.sentence(2, "-1: t is not 0 .. 7; -2.");
    edges.same("table(8, 0, 1)", Stories::crowd, x -> x.table(8, 0, 1), -1);
    edges.same("table(-1, 1, 17)", Stories::crowd, x -> x.table(-1, 1, 17), -1);
  }

  // ---- promise 3

  private void triplesCounted() {
    edges.sentence(3, "One of THE TRIPLES more: how many.");
    KeptTables x = new KeptTables();
    for (int i = 1; i <= 64; i++) {
      edges.due("triple, without any table", x.triple(3, 3, 1L), i);
    }
    x.table(0, 4, 4);
    edges.due("count(0, 4)", x.count(0, 4), 64);
    edges.due("join(0)", x.join(0), 1);
    edges.due("at(0, 3, 3)", x.at(0, 3, 3), 64);
    edges.due("triple, from the first again", x.triple(0, 0, 1L), 1);
  }

  private void triplesOfAnyPlace() {
    edges.sentence(3, "One of THE TRIPLES more: how many.");
    KeptTables x = new KeptTables();
    x.table(0, 1, 1);
    edges.due("outside every table that is there", x.triple(15, 15, Long.MIN_VALUE), 1);
    edges.due("triple(0, 15)", x.triple(0, 15, 0L), 2);
    edges.due("triple(15, 0)", x.triple(15, 0, Long.MAX_VALUE), 3);
    x.table(0, 16, 16);
    edges.due("join(0)", x.join(0), 3);
    edges.dueTable("join", x, 0,
        "16x16: 0,15=0 15,0=" + Long.MAX_VALUE + " 15,15=" + Long.MIN_VALUE);
  }

  private void tripleOutside() {
    edges.sentence(3, "-2: r, c are not 0 .. 15");
    for (int far : NO_LINE) {
      edges.same("r is " + far, Stories::crowd, x -> x.triple(far, 0, 1L), -2);
      edges.same("c is " + far, Stories::crowd, x -> x.triple(0, far, 1L), -2);
      edges.same("both are " + far, Stories::crowd, x -> x.triple(far, far, 1L), -2);
    }
  }

  private void tripleWithoutRoom() {
    edges.sentence(3, "-2: r, c are not 0 .. 15; -4.");
    edges.same("the 65th", Stories::fullTriples, x -> x.triple(0, 0, 1L), -4);
    edges.same("the 65th, of a place that has come", Stories::fullTriples,
        x -> x.triple(15, 15, 1L), -4);
    edges.same("-2 ahead of -4, r", Stories::fullTriples, x -> x.triple(16, 0, 1L), -2);
    edges.same("-2 ahead of -4, c", Stories::fullTriples, x -> x.triple(0, -1, 1L), -2);
  }

  // ---- promises 4 and 5

  private void listCounted() {
    edges.sentence(4, "One of THE LIST more: how many.");
    KeptTables x = new KeptTables();
    edges.due("list(0)", x.list(0), 1);
    edges.due("list(15)", x.list(15), 2);
    edges.due("list(0) again", x.list(0), 3);
    for (int i = 4; i <= 16; i++) {
      edges.due("list(15) again", x.list(15), i);
    }
    x.table(0, 1, 1);
    edges.due("count(0, 5)", x.count(0, 5), 16);
  }

  private void listOutside() {
    edges.sentence(4, "-2; -4.");
    for (int far : NO_LINE) {
      edges.same("list(" + far + ")", Stories::crowd, x -> x.list(far), -2);
      edges.same("list(" + far + ") of none", Stories::nothing, x -> x.list(far), -2);
    }
  }

  private void listWithoutRoom() {
    edges.sentence(4, "-2; -4.");
    Edges.Story full = x -> Stories.listTimes(x, 3, 16);
    edges.same("the 17th", full, x -> x.list(3), -4);
    edges.same("the 17th is 15", full, x -> x.list(15), -4);
    edges.same("-2 ahead of -4", full, x -> x.list(16), -2);
    edges.same("-2 ahead of -4", full, x -> x.list(-1), -2);
    edges.leaves("the 16th", x -> Stories.listTimes(x, 3, 15), x -> x.list(3), 16, full);
  }

  private void listedFromTheFirst() {
    edges.sentence(5, "The i-th of THE LIST.");
    KeptTables x = new KeptTables();
    for (int i = 0; i < 16; i++) {
      x.list(i * 7 % 16);
      edges.due("the last one", x.listed(i), i * 7 % 16);
      edges.due("the first one", x.listed(0), 0);
    }
    edges.due("listed(15)", x.listed(15), 15 * 7 % 16);
  }

  private void listedBeyond() {
    edges.sentence(5, "-2: it has not so many");
    for (int n : new int[] {0, 1, 3, 15, 16}) {
      for (int i : new int[] {n, n + 1, 16, 17, -1, -n - 1, Edges.LOWEST, Edges.HIGHEST}) {
        Edges.Story some = x -> Stories.listTimes(x, 7, n);
        edges.same("listed(" + i + ") of " + n, some, x -> x.listed(i), -2);
      }
    }
    KeptTables x = new KeptTables();
    Stories.listTimes(x, 7, 16);
    Checks.make(x, 0, 8, 8);
    x.rows(0, 0);
    edges.due("none is left behind rows", x.listed(0), -2);
    x.list(4);
    edges.due("the others have not come back", x.listed(1), -2);
  }

  // ---- promise 6

  private void joinAddsUp() {
    edges.sentence(6, "each place is KEPT, VALUES of one place add up: how many are KEPT");
    KeptTables x = new KeptTables();
    x.table(0, 16, 16);
    x.triple(15, 15, 4L);
    x.triple(0, 0, 0L);
    x.triple(15, 15, -4L);
    x.triple(15, 15, 9L);
    edges.due("join", x.join(0), 2);
    edges.dueTable("join", x, 0, "16x16: 0,0=0 15,15=9");
    x.triple(15, 15, -9L);
    x.triple(0, 15, 1L);
    edges.due("join to what is held", x.join(0), 3);
    edges.dueTable("0 stays kept", x, 0, "16x16: 0,0=0 0,15=1 15,15=0");
  }

  private void joinOfNone() {
    edges.sentence(6, "THE TRIPLES are added to a TABLE");
    edges.same("to an empty table", x -> x.table(0, 2, 2), x -> x.join(0), 0);
    edges.same("to a full table", x -> Stories.fullAbove(x, 0), x -> x.join(0), 128);
  }

  private void joinWithoutTable() {
    edges.sentence(6, "-1; -3: one lies outside; -4.");
    for (int t : new int[] {NONE, -1, 8, Edges.LOWEST, Edges.HIGHEST}) {
      edges.same("join(" + t + ")", Stories::crowd, x -> x.join(t), -1);
    }
    edges.same("join(0), 64 triples", Stories::fullTriples, x -> x.join(0), -1);
  }

  private void joinOutside() {
    edges.sentence(6, "-3: one lies outside");
    Edges.Story before = x -> Checks.make(x, 0, 3, 5, 2, 4, 1);
    int[][] outside = {{3, 0}, {0, 5}, {3, 4}, {2, 5}, {15, 0}, {0, 15}, {15, 15}};
    for (int[] place : outside) {
      Edges.Story story = x -> {
        before.tell(x);
        x.triple(2, 4, 10L);
        x.triple(place[0], place[1], 0L);
        x.triple(0, 0, 10L);
      };
      String where = "(" + place[0] + ", " + place[1] + ")";
      edges.leaves("join of " + where, story, x -> x.join(0), -3, before);
    }
    Edges.Story inside = x -> {
      before.tell(x);
      x.triple(2, 4, 10L);
      x.triple(0, 4, 3L);
      x.triple(2, 0, 4L);
    };
    edges.leaves("the last places inside", inside, x -> x.join(0), 3,
        x -> Checks.make(x, 0, 3, 5, 2, 4, 11, 0, 4, 3, 2, 0, 4));
  }

  private void joinWithoutRoom() {
    edges.sentence(6, "-3: one lies outside; -4.");
    Edges.Story full = x -> Stories.fullAbove(x, 0);
    Edges.Story more = x -> {
      full.tell(x);
      x.triple(0, 0, 5L);
      x.triple(15, 15, 0L);
    };
    edges.leaves("the 129th, with 0", more, x -> x.join(0), -4, full);
    Edges.Story many = x -> {
      full.tell(x);
      for (int i = 0; i < 64; i++) {
        x.triple(8 + i / 16, i % 16, 1L);
      }
    };
    edges.leaves("the 192nd", many, x -> x.join(0), -4, full);
  }

  private void joinOfWhatIsKept() {
    edges.sentence(6, "how many are KEPT");
    KeptTables x = new KeptTables();
    Stories.fullAbove(x, 0);
    for (int i = 0; i < 64; i++) {
      x.triple(i / 16, i % 16, -(i % 16) - 1);
    }
    edges.due("64 triples to a full table", x.join(0), 128);
    edges.due("count(0, 3)", x.count(0, 3), 64);
    edges.due("prune", x.prune(0), 64);
    for (int i = 0; i < 64; i++) {
      x.triple(8 + i / 16, i % 16, 1L);
    }
    edges.due("64 triples, 128 in all", x.join(0), 128);
    x.triple(0, 0, 1L);
    edges.due("one more", x.join(0), -4);
  }

  private void joinRefusedInOrder() {
    edges.sentence(6, "-1; -3: one lies outside; -4.");
    Edges.Story full = x -> {
      x.table(0, 1, 16);
      for (int c = 0; c < 16; c++) {
        x.triple(0, c, c);
      }
      x.join(0);
      Stories.listTimes(x, 0, 8);
      x.rows(0, 0);
    };
    Edges.Story more = x -> {
      full.tell(x);
      x.triple(8, 0, 1L);
    };
    edges.leaves("the 129th lies outside", more, x -> x.join(0), -3, full);
    Edges.Story lower = x -> {
      Stories.fullAbove(x, 0);
      x.turn(0, 0);
      Stories.listOf(x, 0, 1, 2, 3, 4, 5, 6, 7, 8, 9, 10, 11, 12, 13, 14);
      x.rows(0, 0);
    };
    Edges.Story both = x -> {
      lower.tell(x);
      for (int i = 0; i < 15; i++) {
        x.triple(i, 15, 1L);
      }
      x.triple(15, 0, 1L);
    };
    edges.leaves("-3 ahead of -4", both, x -> x.join(0), -3, lower);
  }

  // ---- promise 7

  private void counts() {
    edges.sentence(7,
        "Of a TABLE: 0 rows, 1 columns, 2 KEPT places, 3 those of them with VALUE 0, "
            + "4 THE TRIPLES, 5 how many numbers THE LIST has.");
    int[] want = {2, 3, 3, 1, 2, 3};
    for (int what = 0; what < 6; what++) {
      int asked = what;
      edges.same("count(0, " + what + ")", Stories::crowd, x -> x.count(0, asked), want[what]);
    }
  }

  private void countsOfEmptyAndFull() {
    edges.sentence(7, "2 KEPT places, 3 those of them with VALUE 0");
    KeptTables x = new KeptTables();
    x.table(0, 16, 16);
    edges.due("nothing kept", x.count(0, 2), 0);
    edges.due("no zeros kept, although all is 0", x.count(0, 3), 0);
    Stories.fullAbove(x, 0);
    edges.due("all kept", x.count(0, 2), 128);
    edges.due("none of them 0", x.count(0, 3), 0);
    x.add(0, 0, 0, 0L, 0L);
    edges.due("all kept, times 0", x.count(0, 2), 128);
    edges.due("all of them 0", x.count(0, 3), 128);
  }

  private void countWithoutTable() {
    edges.sentence(7, "-1 (also of 4, 5)");
    for (int what : new int[] {0, 1, 2, 3, 4, 5}) {
      edges.same("count(5, " + what + ")", Stories::crowd, x -> x.count(NONE, what), -1);
      edges.same("count(8, " + what + ")", Stories::crowd, x -> x.count(8, what), -1);
      edges.same("count(-1, " + what + ")", Stories::crowd, x -> x.count(-1, what), -1);
    }
  }

  private void countOutside() {
    edges.sentence(7, "-1 (also of 4, 5); -2.");
    for (int what : new int[] {-1, 6, Edges.LOWEST, Edges.HIGHEST}) {
      edges.same("count(0, " + what + ")", Stories::crowd, x -> x.count(0, what), -2);
      edges.same("count(5, " + what + ")", Stories::crowd, x -> x.count(NONE, what), -1);
    }
  }

  // ---- promises 8 to 10

  private void atPlaces() {
    edges.sentence(8, "What a place holds.");
    KeptTables x = new KeptTables();
    Stories.all(x, 0, 3, 4);
    edges.due("the first place", x.at(0, 0, 0), 11);
    edges.due("the end of row 0", x.at(0, 0, 3), 14);
    edges.due("the last place", x.at(0, 2, 3), 34);
    edges.due("row -1", x.at(0, -1, 0), 0);
    edges.due("row 3", x.at(0, 3, 0), 0);
    edges.due("column -1", x.at(0, 1, -1), 0);
    edges.due("column 4", x.at(0, 0, 4), 0);
    edges.due("a column that would be in the next row", x.at(0, 0, 16), 0);
    edges.due("a column that would be in the row ahead", x.at(0, 1, -16), 0);
    for (int far : NO_LINE) {
      edges.due("at(0, " + far + ", 0)", x.at(0, far, 0), 0);
      edges.due("at(0, 0, " + far + ")", x.at(0, 0, far), 0);
      edges.due("at(0, " + far + ", " + far + ")", x.at(0, far, far), 0);
    }
    edges.due("table 8", x.at(8, 0, 0), 0);
    edges.due("table -1", x.at(-1, 0, 0), 0);
    edges.due("no table", x.at(1, 0, 0), 0);
  }

  private void keptNumbers() {
    edges.sentence(9, "The number of a place in the ORDER, from 0.");
    KeptTables x = new KeptTables();
    Stories.everyOther(x, 0);
    edges.due("the first one", x.kept(0, 0, 0), 0);
    edges.due("the last one of row 0", x.kept(0, 0, 14), 7);
    edges.due("the first one of row 1", x.kept(0, 1, 1), 8);
    edges.due("the last one", x.kept(0, 15, 15), 127);
    for (int k = 0; k < 128; k++) {
      int place = x.place(0, k);
      edges.due("kept of place " + k, x.kept(0, place / 16, place % 16), k);
    }
  }

  private void keptOutside() {
    edges.sentence(9, "-1; -2: r, c; -3: it is not KEPT.");
    for (int far : new int[] {-1, 2, 15, 16, Edges.LOWEST, Edges.HIGHEST}) {
      edges.same("r is " + far, Stories::crowd, x -> x.kept(2, far, 0), -2);
      edges.same("c is " + far, Stories::crowd, x -> x.kept(2, 0, far), -2);
      edges.same("no table, r is " + far, Stories::crowd, x -> x.kept(NONE, far, 0), -1);
    }
    edges.same("row 2 of 2 x 3", Stories::crowd, x -> x.kept(0, 2, 0), -2);
    edges.same("column 3 of 2 x 3", Stories::crowd, x -> x.kept(0, 0, 3), -2);
    edges.same("row 2 of 3 x 2", Stories::crowd, x -> x.kept(1, 2, 0), 1);
    edges.same("column 2 of 3 x 2", Stories::crowd, x -> x.kept(1, 2, 2), -2);
    edges.same("row 16 of 16", Stories::crowd, x -> x.kept(3, 16, 0), -2);
    edges.same("column 16 of 16", Stories::crowd, x -> x.kept(3, 0, 16), -2);
  }

  private void keptNot() {
    edges.sentence(9, "-3: it is not KEPT");
    edges.same("the last place of 2 x 3", Stories::crowd, x -> x.kept(0, 1, 2), -3);
    edges.same("the only place of 1 x 1", Stories::crowd, x -> x.kept(7, 0, 0), -3);
    edges.same("the first place behind 128", Stories::crowd, x -> x.kept(3, 8, 0), -3);
    edges.same("the last place of 16 x 16", Stories::crowd, x -> x.kept(3, 15, 15), -3);
    edges.same("kept with 0", Stories::crowd, x -> x.kept(0, 0, 2), 1);
  }

  private void placeNumbers() {
    edges.sentence(10, "16 r and c of the k-th KEPT place.");
    KeptTables x = new KeptTables();
    Stories.everyOther(x, 0);
    for (int k = 0; k < 128; k++) {
      int r = k / 8;
      int c = 2 * (k % 8) + r % 2;
      edges.due("place(0, " + k + ")", x.place(0, k), 16 * r + c);
    }
    Checks.make(x, 1, 1, 1, 0, 0, 0);
    edges.due("place(1, 0)", x.place(1, 0), 0);
  }

  private void placeOutside() {
    edges.sentence(10, "-1; -2.");
    edges.same("the first one of none", Stories::crowd, x -> x.place(7, 0), -2);
    edges.same("the last one", Stories::crowd, x -> x.place(0, 2), 17);
    edges.same("one behind the last one", Stories::crowd, x -> x.place(0, 3), -2);
    edges.same("the last one of 128", Stories::crowd, x -> x.place(3, 127), 127);
    edges.same("one behind it", Stories::crowd, x -> x.place(3, 128), -2);
    for (int k : new int[] {-1, 256, Edges.LOWEST, Edges.HIGHEST}) {
      edges.same("place(3, " + k + ")", Stories::crowd, x -> x.place(3, k), -2);
      edges.same("place(5, " + k + ")", Stories::crowd, x -> x.place(NONE, k), -1);
      edges.same("place(8, " + k + ")", Stories::crowd, x -> x.place(8, k), -1);
    }
  }

  // ---- promises 11 and 12

  private void setHolds() {
    edges.sentence(11, "A KEPT place holds v from now on: 1.");
    Edges.Story before = x -> Checks.make(x, 0, 2, 2, 0, 0, 5, 1, 1, 6);
    edges.leaves("set to another", before, x -> x.set(0, 1, 1, -7L), 1,
        x -> Checks.make(x, 0, 2, 2, 0, 0, 5, 1, 1, -7));
    edges.leaves("set to 0", before, x -> x.set(0, 0, 0, 0L), 1,
        x -> Checks.make(x, 0, 2, 2, 0, 0, 0, 1, 1, 6));
    edges.same("set to the same", before, x -> x.set(0, 0, 0, 5L), 1);
    edges.leaves("set to the lowest", before, x -> x.set(0, 0, 0, Long.MIN_VALUE), 1,
        x -> Checks.make(x, 0, 2, 2, 0, 0, Long.MIN_VALUE, 1, 1, 6));
    edges.leaves("the last place of a full table", x -> Stories.fullAbove(x, 0),
        x -> x.set(0, 7, 15, 20L), 1,
        x -> {
          Stories.fullAbove(x, 0);
          x.triple(7, 15, 4L);
          x.join(0);
        });
  }

  private void setOutside() {
    edges.sentence(11, "-1; -2; -3: it is not KEPT.");
    for (int far : new int[] {-1, 2, 16, Edges.LOWEST, Edges.HIGHEST}) {
      edges.same("r is " + far, Stories::crowd, x -> x.set(2, far, 0, 9L), -2);
      edges.same("c is " + far, Stories::crowd, x -> x.set(2, 0, far, 9L), -2);
      edges.same("no table, r is " + far, Stories::crowd, x -> x.set(NONE, far, 0, 9L), -1);
    }
    edges.same("table 8", Stories::crowd, x -> x.set(8, 0, 0, 9L), -1);
    edges.same("table -1", Stories::crowd, x -> x.set(-1, 0, 0, 9L), -1);
  }

  private void setNotKept() {
    edges.sentence(11, "-3: it is not KEPT");
    edges.same("set(0, 0, 1)", Stories::crowd, x -> x.set(0, 0, 1, 9L), -3);
    edges.same("set(0, 0, 1) to 0", Stories::crowd, x -> x.set(0, 0, 1, 0L), -3);
    edges.same("set(7, 0, 0)", Stories::crowd, x -> x.set(7, 0, 0, 9L), -3);
    edges.same("set(3, 15, 15)", Stories::crowd, x -> x.set(3, 15, 15, 9L), -3);
  }

  private void prunes() {
    edges.sentence(12, "Places with VALUE 0 are KEPT no more: how many these were.");
    edges.leaves("some", x -> Checks.make(x, 0, 2, 3, 0, 0, 0, 0, 2, 4, 1, 1, 0, 1, 2, -1),
        x -> x.prune(0), 2, x -> Checks.make(x, 0, 2, 3, 0, 2, 4, 1, 2, -1));
    edges.same("none of three", x -> Checks.make(x, 0, 2, 3, 0, 0, 1, 0, 2, 4, 1, 1, -1),
        x -> x.prune(0), 0);
    edges.same("of an empty table", x -> x.table(0, 16, 16), x -> x.prune(0), 0);
    edges.same("of a full table without 0", x -> Stories.fullAbove(x, 0), x -> x.prune(0), 0);
  }

  private void pruneOfAll() {
    edges.sentence(12, "how many these were");
    Edges.Story zeros = x -> {
      Stories.fullAbove(x, 0);
      x.add(0, 0, 0, 1L, -1L);
    };
    edges.leaves("all 128", zeros, x -> x.prune(0), 128, x -> x.table(0, 16, 16));
    KeptTables x = new KeptTables();
    zeros.tell(x);
    x.prune(0);
    edges.due("prune again", x.prune(0), 0);
    x.triple(8, 8, 1L);
    edges.due("there is room again", x.join(0), 1);
  }

  private void pruneWithoutTable() {
    edges.sentence(12, "-1.");
    for (int t : new int[] {NONE, -1, 8, Edges.LOWEST, Edges.HIGHEST}) {
      edges.same("prune(" + t + ")", Stories::crowd, x -> x.prune(t), -1);
    }
  }
}
