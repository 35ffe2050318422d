import java.util.Random;

/** Long runs of calls on the class and on the plain model: all answers are the same. */
public final class ModelTest {
  private static final int RUNS = 1500;
  private static final int CALLS = 512;
  private static final int KINDS = 29;
  private static final int[] WILD = {
    Integer.MIN_VALUE, Integer.MAX_VALUE, -1, -2, -16, 16, 17, 31, 32, 33, 61, 64, 128, 256, 1 << 30
  };
  private static final long[] WILD_VALUES = {
    Long.MIN_VALUE, Long.MAX_VALUE, 0L, 1L << 32, -1L, 0x123456789abcdefL
  };

  private final Checks checks;
  private final Random random;
  private final KeptTables x = new KeptTables();
  private final PlainModel model = new PlainModel();
  private final int run;
  private final int mostSize;
  private int callsLeft = CALLS;

  private ModelTest(Checks checks, int run) {
    this.checks = checks;
    this.run = run;
    this.random = new Random(run);
    this.mostSize = run % 3 == 0 ? 16 : 2 + random.nextInt(6);
  }

  public static void main(String[] args) {
    Checks checks = new Checks("ModelTest");
    for (int run = 0; run < RUNS; run++) {
      new ModelTest(checks, run).go();
    }
    checks.end();
  }

  private void go() {
    for (int t = 0; t < 8; t += 1 + random.nextInt(2)) {
      makeTable(t);
      fillTable(t, random.nextInt(4));
    }
    while (callsLeft > 0) {
      if (random.nextInt(40) == 0) {
        int t = random.nextInt(8);
        makeTable(t);
        fillTable(t, 1 + random.nextInt(2));
      } else {
        anyCall(random.nextInt(KINDS));
      }
    }
  }

  private void due(String call, long got, long want) {
    callsLeft--;
    checks.due("run " + run + ": " + call, got, want);
  }

  private void makeTable(int t) {
    int rows = 1 + random.nextInt(mostSize);
    int columns = random.nextInt(4) == 0 ? 1 + random.nextInt(mostSize) : rows;
    due("table", x.table(t, rows, columns), model.table(t, rows, columns));
  }

  /** Joins a bundle of triples, most of them inside, a few times over. */
  private void fillTable(int t, int times) {
    int rows = Math.max(1, model.count(t, 0));
    int columns = Math.max(1, model.count(t, 1));
    for (int i = 0; i < times && callsLeft > 100; i++) {
      int n = random.nextInt(Math.min(66, rows * columns + 2));
      for (int k = 0; k < n; k++) {
        int r = random.nextInt(rows);
        int c = random.nextInt(columns);
        long v = value();
        due("triple", x.triple(r, c, v), model.triple(r, c, v));
      }
      due("join", x.join(t), model.join(t));
    }
  }

  private int wildOr(int usual) {
    return random.nextInt(40) == 0 ? WILD[random.nextInt(WILD.length)] : usual;
  }

  private int slot() {
    return wildOr(random.nextInt(8));
  }

  private int line() {
    return wildOr(random.nextInt(mostSize + (random.nextInt(8) == 0 ? 1 : 0)));
  }

  private long value() {
    int kind = random.nextInt(10);
    if (kind == 0) {
      return WILD_VALUES[random.nextInt(WILD_VALUES.length)];
    }
    return kind < 3 ? 0L : random.nextInt(21) - 10;
  }

  private void anyCall(int kind) {
    if (kind < 11) {
      placesCall(kind);
    } else if (kind < 19) {
      tablesCall(kind);
    } else if (kind < 22) {
      formsCall(kind);
    } else {
      graphsCall(kind);
    }
  }

  private void placesCall(int kind) {
    int t = slot();
    int r = line();
    int c = line();
    long v = value();
    int what = wildOr(random.nextInt(6));
    int k = wildOr(random.nextInt(Math.max(1, model.count(t, 2)) + 1));
    switch (kind) {
      case 0 -> {
        int rows = wildOr(1 + random.nextInt(mostSize));
        due("table", x.table(t, rows, rows), model.table(t, rows, rows));
      }
      case 1 -> due("triple", x.triple(r, c, v), model.triple(r, c, v));
      case 2 -> due("list", x.list(r), model.list(r));
      case 3 -> due("listed", x.listed(c), model.listed(c));
      case 4 -> due("join", x.join(t), model.join(t));
      case 5 -> due("count", x.count(t, what), model.count(t, what));
      case 6 -> due("at", x.at(t, r, c), model.at(t, r, c));
      case 7 -> due("kept", x.kept(t, r, c), model.kept(t, r, c));
      case 8 -> due("place", x.place(t, k), model.place(t, k));
      case 9 -> due("set", x.set(t, r, c, v), model.set(t, r, c, v));
      default -> due("prune", x.prune(t), model.prune(t));
    }
  }

  private void tablesCall(int kind) {
    int a = slot();
    int b = random.nextInt(5) == 0 ? a : slot();
    int c = random.nextInt(5) == 0 ? a : slot();
    int to = slot();
    int i = line();
    long p = value();
    long q = value();
    boolean yes = random.nextBoolean();
    switch (kind) {
      case 11 -> due("add", x.add(a, b, to, p, q), model.add(a, b, to, p, q));
      case 12 -> due("times", x.times(a, b, to), model.times(a, b, to));
      case 13 -> due("each", x.each(a, b, to), model.each(a, b, to));
      case 14 -> due("mask", x.mask(a, b, to, yes), model.mask(a, b, to, yes));
      case 15 -> due("turn", x.turn(a, to), model.turn(a, to));
      case 16 -> due("rows", x.rows(a, to), model.rows(a, to));
      case 17 -> due("slopes", x.slopes(a, b, c, to, yes), model.slopes(a, b, c, to, yes));
      default -> due("sum", x.sum(a, yes, i), model.sum(a, yes, i));
    }
    if (kind < 18 && random.nextInt(4) == 0) {
      wholeTable(to);
    }
  }

  private void wholeTable(int t) {
    for (int k = 0; k < model.count(t, 2) && callsLeft > 1; k++) {
      int place = model.place(t, k);
      due("place", x.place(t, k), place);
      due("at", x.at(t, place / 16, place % 16), model.at(t, place / 16, place % 16));
    }
  }

  private void formsCall(int kind) {
    int t = slot();
    int form = wildOr(random.nextInt(6));
    int b = wildOr(1 + random.nextInt(4));
    switch (kind) {
      case 19 -> due("cost", x.cost(t, form, b), model.cost(t, form, b));
      case 20 -> due("cheapest", x.cheapest(t, b), model.cheapest(t, b));
      default -> {
        int i = wildOr(random.nextInt(Math.max(1, model.cost(t, form, b)) + 1));
        for (int k = 0; k < 8 && callsLeft > 0; k++) {
          due("cell", x.cell(t, form, b, i + k), model.cell(t, form, b, i + k));
        }
      }
    }
  }

  private void graphsCall(int kind) {
    int t = slot();
    int a = line();
    int b = line();
    int n = wildOr(random.nextInt(61));
    switch (kind) {
      case 22 -> due("walks", x.walks(t, a, b, n), model.walks(t, a, b, n));
      case 23 -> due("way", x.way(t, a, b), model.way(t, a, b));
      case 24 -> due("ring", x.ring(t, a), model.ring(t, a));
      case 25 -> due("rings", x.ring(t, -1), model.ring(t, -1));
      case 26 -> due("sort", x.sort(t), model.sort(t));
      case 27 -> due("narrow", x.narrow(t), model.narrow(t));
      default -> due("width", x.width(t), model.width(t));
    }
    if ((kind == 26 || kind == 27) && random.nextInt(3) == 0) {
      for (int i = 0; i < 17 && callsLeft > 0; i++) {
        due("listed", x.listed(i), model.listed(i));
      }
    }
  }
}
