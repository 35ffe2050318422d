/** "VALUES are whole numbers of 64 bits that wrap", of each call that holds or reckons them. */
final class ValuesEdges {
  private static final long LOW = Long.MIN_VALUE;
  private static final long HIGH = Long.MAX_VALUE;
  private static final long HALF = 1L << 32;

  private final Edges edges;

  ValuesEdges(Edges edges) {
    this.edges = edges;
  }

  void run() {
    edges.sentence(Edges.TERMS, "VALUES are whole numbers of 64 bits that wrap.");
    held();
    joined();
    added();
    multiplied();
    placeByPlace();
    handedOn();
    sloped();
    summed();
    walked();
    walkedToNothing();
  }

  private void held() {
    KeptTables x = new KeptTables();
    Checks.make(x, 0, 1, 4, 0, 0, LOW, 0, 1, HIGH, 0, 2, -1, 0, 3, HALF);
    edges.dueTable("held from a triple on", x, 0,
        "1x4: 0,0=" + LOW + " 0,1=" + HIGH + " 0,2=-1 0,3=" + HALF);
    edges.due("set to the highest", x.set(0, 0, 0, HIGH), 1);
    edges.due("set to the lowest", x.set(0, 0, 1, LOW), 1);
    edges.dueTable("held from set on", x, 0,
        "1x4: 0,0=" + HIGH + " 0,1=" + LOW + " 0,2=-1 0,3=" + HALF);
    for (int form = 0; form < 6; form++) {
      edges.due("the lowest in form " + form, cellWith(x, form, LOW), 1);
      edges.due("the highest in form " + form, cellWith(x, form, HIGH), 1);
    }
  }

  private static int cellWith(KeptTables x, int form, long v) {
    int found = 0;
    for (int i = 0; i < x.cost(0, form, 1); i++) {
      found += x.cell(0, form, 1, i) == v ? 1 : 0;
    }
    return found;
  }

  private void joined() {
    KeptTables x = new KeptTables();
    Checks.make(x, 0, 2, 2, 0, 0, HIGH, 0, 0, 1, 0, 1, LOW, 0, 1, -1, 1, 0, LOW, 1, 0, LOW);
    edges.dueTable("join of triples of one place", x, 0,
        "2x2: 0,0=" + LOW + " 0,1=" + HIGH + " 1,0=0");
    x.triple(0, 0, -1L);
    x.triple(0, 1, 1L);
    edges.due("join to what is held", x.join(0), 3);
    edges.dueTable("join to what is held", x, 0,
        "2x2: 0,0=" + HIGH + " 0,1=" + LOW + " 1,0=0");
  }

  private void added() {
    KeptTables x = new KeptTables();
    Checks.make(x, 0, 1, 3, 0, 0, LOW, 0, 1, HIGH, 0, 2, HALF);
    Checks.make(x, 1, 1, 3, 0, 0, LOW, 0, 1, 1, 0, 2, 0);
    edges.due("add", x.add(0, 1, 2, 1L, 1L), 3);
    edges.dueTable("sums", x, 2, "1x3: 0,0=0 0,1=" + LOW + " 0,2=" + HALF);
    edges.due("add, x is -1", x.add(0, 1, 2, -1L, 0L), 3);
    edges.dueTable("the lowest is its own opposite", x, 2,
        "1x3: 0,0=" + LOW + " 0,1=" + -HIGH + " 0,2=" + -HALF);
    edges.due("add, large x and y", x.add(0, 1, 2, HALF, LOW), 3);
    edges.dueTable("products", x, 2, "1x3: 0,0=0 0,1=" + (LOW - HALF) + " 0,2=0");
  }

  private void multiplied() {
    KeptTables x = new KeptTables();
    Checks.make(x, 0, 2, 2, 0, 0, HALF, 0, 1, HIGH, 1, 0, LOW);
    Checks.make(x, 1, 2, 2, 0, 0, HALF, 1, 1, 2, 0, 1, 1);
    edges.due("times", x.times(0, 1, 2), 4);
    edges.dueTable("products and their sums", x, 2,
        "2x2: 0,0=0 0,1=" + (HALF - 2) + " 1,0=0 1,1=" + LOW);
  }

  private void placeByPlace() {
    KeptTables x = new KeptTables();
    Checks.make(x, 0, 1, 4, 0, 0, HALF, 0, 1, LOW, 0, 2, LOW, 0, 3, HIGH);
    Checks.make(x, 1, 1, 4, 0, 0, HALF, 0, 1, -1, 0, 2, 2, 0, 3, HIGH);
    edges.due("each", x.each(0, 1, 2), 4);
    edges.dueTable("products", x, 2, "1x4: 0,0=0 0,1=" + LOW + " 0,2=0 0,3=1");
  }

  private void handedOn() {
    KeptTables x = new KeptTables();
    Checks.make(x, 0, 1, 2, 0, 0, LOW, 0, 1, HIGH);
    String row = "1x2: 0,0=" + LOW + " 0,1=" + HIGH;
    edges.due("turn", x.turn(0, 1), 2);
    edges.dueTable("turn", x, 1, "2x1: 0,0=" + LOW + " 1,0=" + HIGH);
    edges.due("mask", x.mask(0, 0, 1, true), 2);
    edges.dueTable("mask", x, 1, row);
    x.list(0);
    edges.due("rows", x.rows(0, 1), 2);
    edges.dueTable("rows", x, 1, row);
  }

  private void sloped() {
    KeptTables x = new KeptTables();
    Checks.make(x, 0, 1, 1, 0, 0, HALF);
    Checks.make(x, 1, 1, 2, 0, 0, HIGH, 0, 1, 1);
    Checks.make(x, 2, 1, 2, 0, 0, 1, 0, 1, 1);
    edges.due("slopes by a", x.slopes(0, 1, 2, 3, true), 1);
    edges.due("a sum", x.at(3, 0, 0), LOW);
    Checks.make(x, 2, 1, 2, 0, 0, HALF, 0, 1, -HALF);
    edges.due("slopes by b", x.slopes(0, 1, 2, 3, false), 2);
    edges.dueTable("products", x, 3, "1x2: 0,0=0 0,1=0");
    Checks.make(x, 4, 2, 1, 0, 0, HIGH, 1, 0, 1);
    Checks.make(x, 5, 1, 1, 0, 0, 9);
    Checks.make(x, 6, 2, 1, 0, 0, 1, 1, 0, 1);
    edges.due("slopes by b", x.slopes(4, 5, 6, 3, false), 1);
    edges.due("a sum down the rows", x.at(3, 0, 0), LOW);
  }

  private void summed() {
    KeptTables x = new KeptTables();
    Checks.make(x, 0, 2, 2, 0, 0, HIGH, 0, 1, 1, 1, 0, 2, 1, 1, LOW);
    edges.due("sum of row 0", x.sum(0, true, 0), LOW);
    edges.due("sum of row 1", x.sum(0, true, 1), LOW + 2);
    edges.due("sum of column 0", x.sum(0, false, 0), LOW + 1);
    edges.due("sum of column 1", x.sum(0, false, 1), LOW + 1);
  }

  private void walked() {
    KeptTables x = new KeptTables();
    Checks.make(x, 0, 1, 1, 0, 0, 2);
    edges.due("walks of 60 steps of 2", x.walks(0, 0, 0, 60), 1L << 60);
    x.set(0, 0, 0, 4L);
    edges.due("walks of 31 steps of 4", x.walks(0, 0, 0, 31), 1L << 62);
    edges.due("walks of 32 steps of 4", x.walks(0, 0, 0, 32), 0);
    x.set(0, 0, 0, -1L);
    edges.due("walks of 59 steps of -1", x.walks(0, 0, 0, 59), -1);
    x.set(0, 0, 0, LOW);
    edges.due("walks of 1 step of the lowest", x.walks(0, 0, 0, 1), LOW);
    edges.due("walks of 2 steps of the lowest", x.walks(0, 0, 0, 2), 0);
    x.set(0, 0, 0, HIGH);
    edges.due("walks of 2 steps of the highest", x.walks(0, 0, 0, 2), 1);
    edges.due("walks of 59 steps of the highest", x.walks(0, 0, 0, 59), HIGH);
  }

  /** A sum that has come back to 0 on the way counts again with what is added later. */
  private void walkedToNothing() {
    KeptTables x = new KeptTables();
    Checks.make(x, 0, 4, 4, 0, 1, LOW, 0, 2, LOW, 1, 3, 1, 2, 3, 1, 3, 3, 1);
    edges.due("walks of 2 steps", x.walks(0, 0, 3, 2), 0);
    edges.due("walks of 3 steps", x.walks(0, 0, 3, 3), 0);
    x.set(0, 1, 3, 3L);
    x.set(0, 2, 3, 2L);
    edges.due("walks of 2 steps, of other values", x.walks(0, 0, 3, 2), LOW);
  }
}
