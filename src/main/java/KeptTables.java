/**
 * Sparse tables of whole numbers: places that are kept, with what they hold; their sums, products,
 * forms and costs; tables as graphs. The document's terms are used throughout.
 */
public final class KeptTables {
  private static final int TABLES = 8;
  private static final int SIDE = 16;
  private static final int MOST_KEPT = 128;
  private static final int MOST_TRIPLES = 64;
  private static final int MOST_STEPS = 60;
  private static final int MOST_BLOCK_SIDE = 4;
  private static final int ALL_RINGS = -1;

  private static final int NO_TABLE = -1;
  private static final int OUTSIDE = -2;
  private static final int UNFIT = -3;
  private static final int NO_ROOM = -4;

  private static final int FORM_TRIPLES = 0;
  private static final int FORM_BY_ROWS = 1;
  private static final int FORM_BY_COLUMNS = 2;
  private static final int FORM_BLOCKS = 3;
  private static final int FORM_FULL = 4;
  private static final int FORM_SLANTS = 5;

  private final Grid[] grids = new Grid[TABLES];
  private final Triples triples = new Triples();
  private final Graph graph = new Graph();

  // A new table or list is drafted aside and changes places with the old one only when it is whole:
  // so it may be made of the one that it replaces, and a refusal leaves all as it was.
  private Grid draft = new Grid();
  private Numbers numbers = new Numbers();
  private Numbers draftNumbers = new Numbers();

  public KeptTables() {
    for (int t = 0; t < TABLES; t++) {
      grids[t] = new Grid();
    }
  }

  // ---- places

  public int table(int t, int rows, int columns) {
    if (!isSlot(t)) {
      return NO_TABLE;
    }
    if (!isSize(rows) || !isSize(columns)) {
      return OUTSIDE;
    }
    draft.begin(rows, columns);
    putDraft(t);
    return 1;
  }

  public int triple(int r, int c, long v) {
    if (!isLine(r) || !isLine(c)) {
      return OUTSIDE;
    }
    if (triples.length >= MOST_TRIPLES) {
      return NO_ROOM;
    }
    triples.append(r, c, v);
    return triples.length;
  }

  public int list(int v) {
    if (!isLine(v)) {
      return OUTSIDE;
    }
    if (numbers.length >= SIDE) {
      return NO_ROOM;
    }
    numbers.append(v);
    return numbers.length;
  }

  public int listed(int i) {
    if (i < 0 || i >= numbers.length) {
      return OUTSIDE;
    }
    return numbers.item(i);
  }

  public int join(int t) {
    Grid grid = gridAt(t);
    if (grid == null) {
      return NO_TABLE;
    }
    boolean fit = triples.lieIn(grid);
    if (fit) {
      draft.become(grid);
      triples.addTo(draft);
    }
    triples.clear();
    return fit ? putDraft(t) : UNFIT;
  }

  public int count(int t, int what) {
    Grid grid = gridAt(t);
    if (grid == null) {
      return NO_TABLE;
    }
    switch (what) {
      case 0:
        return grid.rowCount;
      case 1:
        return grid.columnCount;
      case 2:
        return grid.keptCount();
      case 3:
        return grid.keptZeros();
      case 4:
        return triples.length;
      case 5:
        return numbers.length;
      default:
        return OUTSIDE;
    }
  }

  public long at(int t, int r, int c) {
    Grid grid = gridAt(t);
    if (grid == null || !grid.covers(r, c)) {
      return 0L;
    }
    return grid.value(r, c);
  }

  public int kept(int t, int r, int c) {
    Grid grid = gridAt(t);
    if (grid == null) {
      return NO_TABLE;
    }
    if (!grid.covers(r, c)) {
      return OUTSIDE;
    }
    return grid.keeps(r, c) ? grid.orderNumber(r, c) : UNFIT;
  }

  public int place(int t, int k) {
    Grid grid = gridAt(t);
    if (grid == null) {
      return NO_TABLE;
    }
    if (k < 0 || k >= grid.keptCount()) {
      return OUTSIDE;
    }
    return grid.placeNumber(k);
  }

  public int set(int t, int r, int c, long v) {
    Grid grid = gridAt(t);
    if (grid == null) {
      return NO_TABLE;
    }
    if (!grid.covers(r, c)) {
      return OUTSIDE;
    }
    if (!grid.keeps(r, c)) {
      return UNFIT;
    }
    grid.put(r, c, v);
    return 1;
  }

  public int prune(int t) {
    Grid grid = gridAt(t);
    return grid == null ? NO_TABLE : grid.dropZeros();
  }

  // ---- tables of tables

  public int add(int a, int b, int to, long x, long y) {
    Grid left = gridAt(a);
    Grid right = gridAt(b);
    if (left == null || right == null || !isSlot(to)) {
      return NO_TABLE;
    }
    if (!left.hasSizeOf(right)) {
      return UNFIT;
    }
    draft.begin(left.rowCount, left.columnCount);
    draft.addMultiple(left, x);
    draft.addMultiple(right, y);
    return putDraft(to);
  }

  public int times(int a, int b, int to) {
    Grid left = gridAt(a);
    Grid right = gridAt(b);
    if (left == null || right == null || !isSlot(to)) {
      return NO_TABLE;
    }
    if (left.columnCount != right.rowCount) {
      return UNFIT;
    }
    draft.becomeProduct(left, right);
    return putDraft(to);
  }

  public int each(int a, int b, int to) {
    Grid left = gridAt(a);
    Grid right = gridAt(b);
    if (left == null || right == null || !isSlot(to)) {
      return NO_TABLE;
    }
    if (!left.hasSizeOf(right)) {
      return UNFIT;
    }
    draft.becomeEach(left, right);
    return putDraft(to);
  }

  public int mask(int a, int b, int to, boolean in) {
    Grid left = gridAt(a);
    Grid right = gridAt(b);
    if (left == null || right == null || !isSlot(to)) {
      return NO_TABLE;
    }
    if (!left.hasSizeOf(right)) {
      return UNFIT;
    }
    draft.becomeMasked(left, right, in);
    return putDraft(to);
  }

  public int turn(int a, int to) {
    Grid grid = gridAt(a);
    if (grid == null || !isSlot(to)) {
      return NO_TABLE;
    }
    draft.becomeTurned(grid);
    return putDraft(to);
  }

  public int rows(int a, int to) {
    Grid grid = gridAt(a);
    if (grid == null || !isSlot(to)) {
      return NO_TABLE;
    }
    boolean fit = numbers.length > 0 && numbers.areBelow(grid.rowCount);
    if (fit) {
      draft.becomeRows(grid, numbers);
    }
    numbers.clear();
    return fit ? putDraft(to) : UNFIT;
  }

  public int slopes(int a, int b, int c, int to, boolean first) {
    Grid left = gridAt(a);
    Grid right = gridAt(b);
    Grid weights = gridAt(c);
    if (left == null || right == null || weights == null || !isSlot(to)) {
      return NO_TABLE;
    }
    if (left.columnCount != right.rowCount
        || weights.rowCount != left.rowCount
        || weights.columnCount != right.columnCount) {
      return UNFIT;
    }
    if (first) {
      draft.becomeSlopesOfLeft(left, right, weights);
    } else {
      draft.becomeSlopesOfRight(left, right, weights);
    }
    return putDraft(to);
  }

  public long sum(int t, boolean byRow, int i) {
    Grid grid = gridAt(t);
    if (grid == null || i < 0 || i >= (byRow ? grid.rowCount : grid.columnCount)) {
      return 0L;
    }
    return byRow ? grid.rowSum(i) : grid.columnSum(i);
  }

  // ---- forms

  public int cost(int t, int form, int b) {
    Grid grid = gridAt(t);
    if (grid == null) {
      return NO_TABLE;
    }
    if (!Forms.isForm(form, b)) {
      return OUTSIDE;
    }
    return Forms.cellCount(grid, form, b, draft);
  }

  public int cheapest(int t, int b) {
    Grid grid = gridAt(t);
    if (grid == null) {
      return NO_TABLE;
    }
    if (!Forms.isBlockSide(b)) {
      return OUTSIDE;
    }
    int best = FORM_TRIPLES;
    int bestCells = Forms.cellCount(grid, best, b, draft);
    for (int form = FORM_BY_ROWS; form <= FORM_SLANTS; form++) {
      int cells = Forms.cellCount(grid, form, b, draft);
      if (cells < bestCells) {
        best = form;
        bestCells = cells;
      }
    }
    return best;
  }

  public long cell(int t, int form, int b, int i) {
    Grid grid = gridAt(t);
    if (grid == null || !Forms.isForm(form, b)) {
      return 0L;
    }
    if (i < 0 || i >= Forms.cellCount(grid, form, b, draft)) {
      return 0L;
    }
    return Forms.cellValue(grid, form, b, i, draft);
  }

  // ---- graphs

  public long walks(int t, int a, int b, int n) {
    Grid grid = gridAt(t);
    if (grid == null || !grid.isSquare() || !grid.covers(a, b)) {
      return 0L;
    }
    if (n < 0 || n > MOST_STEPS) {
      return 0L;
    }
    return graph.walkSum(grid, a, b, n);
  }

  public int way(int t, int a, int b) {
    Grid grid = gridAt(t);
    if (grid == null) {
      return NO_TABLE;
    }
    if (!grid.hasRow(a) || !grid.hasRow(b)) {
      return OUTSIDE;
    }
    if (!grid.isSquare()) {
      return UNFIT;
    }
    graph.read(grid);
    return graph.wayLength(a, b);
  }

  public int ring(int t, int a) {
    Grid grid = gridAt(t);
    if (grid == null) {
      return NO_TABLE;
    }
    if (a != ALL_RINGS && !grid.hasRow(a)) {
      return OUTSIDE;
    }
    if (!grid.isSquare()) {
      return UNFIT;
    }
    graph.read(grid);
    graph.closeReach();
    return graph.ringsBelow(a == ALL_RINGS ? grid.rowCount : graph.leastOfRing(a));
  }

  public int sort(int t) {
    Grid grid = gridAt(t);
    if (grid == null) {
      return NO_TABLE;
    }
    if (!grid.isSquare()) {
      return UNFIT;
    }
    graph.read(grid);
    if (!graph.sortInto(draftNumbers)) {
      return UNFIT;
    }
    putDraftNumbers();
    return numbers.length;
  }

  public int narrow(int t) {
    Grid grid = gridAt(t);
    if (grid == null) {
      return NO_TABLE;
    }
    if (!grid.isSquare()) {
      return UNFIT;
    }
    graph.read(grid);
    graph.narrowInto(draftNumbers);
    putDraftNumbers();
    return graph.widthOf(numbers);
  }

  public int width(int t) {
    Grid grid = gridAt(t);
    if (grid == null) {
      return NO_TABLE;
    }
    if (!grid.isSquare() || !numbers.areEachBelowOnce(grid.rowCount)) {
      return UNFIT;
    }
    graph.read(grid);
    return graph.widthOf(numbers);
  }

  // ---- what the calls share

  private static boolean isSlot(int t) {
    return t >= 0 && t < TABLES;
  }

  private static boolean isSize(int n) {
    return n >= 1 && n <= SIDE;
  }

  private static boolean isLine(int i) {
    return i >= 0 && i < SIDE;
  }

  private static boolean hasBit(int bits, int i) {
    return (bits >> i & 1) != 0;
  }

  /** The table t, or null where none is there. */
  private Grid gridAt(int t) {
    if (!isSlot(t)) {
      return null;
    }
    Grid grid = grids[t];
    return grid != null && grid.rowCount > 0 ? grid : null;
  }

  /** Puts the drafted table at to, if it keeps no more than a table may: how many it keeps. */
  private int putDraft(int to) {
    Grid old = isSlot(to) ? grids[to] : null;
    if (old == null) {
      return NO_TABLE;
    }
    int keptCount = draft.keptCount();
    if (keptCount > MOST_KEPT) {
      return NO_ROOM;
    }
    grids[to] = draft;
    draft = old;
    return keptCount;
  }

  private void putDraftNumbers() {
    Numbers old = numbers;
    numbers = draftNumbers;
    draftNumbers = old;
  }

  /** One table. It always has room for 16 x 16 places, so that a draft may keep too many. */
  private static final class Grid {
    // 0 rows: no table is there.
    int rowCount = 0;
    int columnCount = 0;
    // Bit c of row r tells whether (r, c) is kept; what is not kept, or beyond the table, holds 0.
    private final int[] keptColumns = new int[SIDE];
    private final long[] values = new long[SIDE * SIDE];

    void begin(int rowCount, int columnCount) {
      this.rowCount = rowCount;
      this.columnCount = columnCount;
      for (int r = 0; r < SIDE; r++) {
        keptColumns[r] = 0;
      }
      for (int i = 0; i < SIDE * SIDE; i++) {
        values[i] = 0L;
      }
    }

    void become(Grid other) {
      rowCount = other.rowCount;
      columnCount = other.columnCount;
      System.arraycopy(other.keptColumns, 0, keptColumns, 0, SIDE);
      System.arraycopy(other.values, 0, values, 0, SIDE * SIDE);
    }

    boolean hasRow(int r) {
      return r >= 0 && r < rowCount;
    }

    boolean covers(int r, int c) {
      return hasRow(r) && c >= 0 && c < columnCount;
    }

    boolean isSquare() {
      return rowCount == columnCount;
    }

    boolean hasSizeOf(Grid other) {
      return rowCount == other.rowCount && columnCount == other.columnCount;
    }

    /** The kept columns of a row, a bit each. */
    int columnsOf(int r) {
      return isLine(r) ? keptColumns[r] : 0;
    }

    boolean keeps(int r, int c) {
      return isLine(r) && isLine(c) && hasBit(keptColumns[r], c);
    }

    long value(int r, int c) {
      return isLine(r) && isLine(c) ? values[r * SIDE + c] : 0L;
    }

    void put(int r, int c, long v) {
      if (isLine(r) && isLine(c)) {
        keptColumns[r] |= 1 << c;
        values[r * SIDE + c] = v;
      }
    }

    void putSum(int r, int c, long v) {
      put(r, c, value(r, c) + v);
    }

    private void drop(int r, int c) {
      if (isLine(r) && isLine(c)) {
        keptColumns[r] &= ~(1 << c);
        values[r * SIDE + c] = 0L;
      }
    }

    int keptCount() {
      return keptAhead(SIDE);
    }

    /** How many places are kept in the rows ahead of row r. */
    int keptAhead(int r) {
      int n = 0;
      for (int i = 0; i < SIDE && i < r; i++) {
        n += Integer.bitCount(keptColumns[i]);
      }
      return n;
    }

    int orderNumber(int r, int c) {
      int columnsAhead = isLine(c) ? (1 << c) - 1 : 0;
      return keptAhead(r) + Integer.bitCount(columnsOf(r) & columnsAhead);
    }

    /** 16 r + c of the k-th kept place, 0 if there are not so many. */
    int placeNumber(int k) {
      int left = k;
      for (int r = 0; r < SIDE; r++) {
        int inRow = Integer.bitCount(keptColumns[r]);
        if (left < inRow) {
          return r * SIDE + bitNumber(keptColumns[r], left);
        }
        left -= inRow;
      }
      return 0;
    }

    /** Where the k-th bit stands that is set, 0 if there are not so many. */
    private static int bitNumber(int bits, int k) {
      int left = k;
      for (int i = 0; i < SIDE; i++) {
        if (hasBit(bits, i)) {
          if (left == 0) {
            return i;
          }
          left--;
        }
      }
      return 0;
    }

    int keptZeros() {
      int n = 0;
      for (int r = 0; r < SIDE; r++) {
        for (int c = 0; c < SIDE; c++) {
          if (keeps(r, c) && value(r, c) == 0L) {
            n++;
          }
        }
      }
      return n;
    }

    int dropZeros() {
      int n = keptZeros();
      for (int r = 0; r < SIDE; r++) {
        for (int c = 0; c < SIDE; c++) {
          if (value(r, c) == 0L) {
            drop(r, c);
          }
        }
      }
      return n;
    }

    long rowSum(int r) {
      long sum = 0L;
      for (int c = 0; c < SIDE; c++) {
        sum += value(r, c);
      }
      return sum;
    }

    long columnSum(int c) {
      long sum = 0L;
      for (int r = 0; r < SIDE; r++) {
        sum += value(r, c);
      }
      return sum;
    }

    void addMultiple(Grid other, long factor) {
      for (int r = 0; r < SIDE; r++) {
        for (int c = 0; c < SIDE; c++) {
          if (other.keeps(r, c)) {
            putSum(r, c, factor * other.value(r, c));
          }
        }
      }
    }

    void becomeProduct(Grid left, Grid right) {
      begin(left.rowCount, right.columnCount);
      for (int r = 0; r < SIDE; r++) {
        for (int k = 0; k < SIDE; k++) {
          if (left.keeps(r, k)) {
            addRowMultiple(r, right, k, left.value(r, k));
          }
        }
      }
    }

    /** Adds row k of another table, times a factor, to row r. */
    private void addRowMultiple(int r, Grid other, int k, long factor) {
      for (int c = 0; c < SIDE; c++) {
        if (other.keeps(k, c)) {
          putSum(r, c, factor * other.value(k, c));
        }
      }
    }

    void becomeEach(Grid left, Grid right) {
      begin(left.rowCount, left.columnCount);
      for (int r = 0; r < SIDE; r++) {
        for (int c = 0; c < SIDE; c++) {
          if (left.keeps(r, c) && right.keeps(r, c)) {
            put(r, c, left.value(r, c) * right.value(r, c));
          }
        }
      }
    }

    void becomeMasked(Grid left, Grid right, boolean in) {
      begin(left.rowCount, left.columnCount);
      for (int r = 0; r < SIDE; r++) {
        for (int c = 0; c < SIDE; c++) {
          if (left.keeps(r, c) && right.keeps(r, c) == in) {
            put(r, c, left.value(r, c));
          }
        }
      }
    }

    void becomeTurned(Grid other) {
      begin(other.columnCount, other.rowCount);
      for (int r = 0; r < SIDE; r++) {
        for (int c = 0; c < SIDE; c++) {
          if (other.keeps(r, c)) {
            put(c, r, other.value(r, c));
          }
        }
      }
    }

    void becomeRows(Grid other, Numbers chosen) {
      begin(chosen.length, other.columnCount);
      for (int i = 0; i < SIDE && i < chosen.length; i++) {
        addRowMultiple(i, other, chosen.item(i), 1L);
      }
    }

    void becomeSlopesOfLeft(Grid left, Grid right, Grid weights) {
      begin(left.rowCount, left.columnCount);
      for (int r = 0; r < SIDE; r++) {
        for (int k = 0; k < SIDE; k++) {
          if (left.keeps(r, k)) {
            put(r, k, weights.productOfRows(r, right, k));
          }
        }
      }
    }

    void becomeSlopesOfRight(Grid left, Grid right, Grid weights) {
      begin(right.rowCount, right.columnCount);
      for (int k = 0; k < SIDE; k++) {
        for (int j = 0; j < SIDE; j++) {
          if (right.keeps(k, j)) {
            put(k, j, weights.productOfColumns(j, left, k));
          }
        }
      }
    }

    private long productOfRows(int r, Grid other, int k) {
      long sum = 0L;
      for (int j = 0; j < SIDE; j++) {
        sum += value(r, j) * other.value(k, j);
      }
      return sum;
    }

    private long productOfColumns(int j, Grid other, int k) {
      long sum = 0L;
      for (int r = 0; r < SIDE; r++) {
        sum += value(r, j) * other.value(r, k);
      }
      return sum;
    }

    /** Keeps a place for each block of b x b in which the other table keeps one. */
    void becomeBlocks(Grid other, int b) {
      if (b < 1) {
        return;
      }
      begin((other.rowCount + b - 1) / b, (other.columnCount + b - 1) / b);
      for (int r = 0; r < SIDE; r++) {
        for (int c = 0; c < SIDE; c++) {
          if (other.keeps(r, c)) {
            put(r / b, c / b, 0L);
          }
        }
      }
    }

    boolean keepsOnSlant(int slant) {
      for (int r = 0; r < SIDE; r++) {
        if (keeps(r, r + slant)) {
          return true;
        }
      }
      return false;
    }
  }

  /** THE TRIPLES. */
  private static final class Triples {
    int length = 0;
    private final int[] rowNumbers = new int[MOST_TRIPLES];
    private final int[] columnNumbers = new int[MOST_TRIPLES];
    private final long[] values = new long[MOST_TRIPLES];

    void append(int r, int c, long v) {
      if (length >= 0 && length < MOST_TRIPLES) {
        rowNumbers[length] = r;
        columnNumbers[length] = c;
        values[length] = v;
        length++;
      }
    }

    void clear() {
      length = 0;
    }

    boolean lieIn(Grid grid) {
      for (int i = 0; i < MOST_TRIPLES && i < length; i++) {
        if (!grid.covers(rowNumbers[i], columnNumbers[i])) {
          return false;
        }
      }
      return true;
    }

    void addTo(Grid grid) {
      for (int i = 0; i < MOST_TRIPLES && i < length; i++) {
        grid.putSum(rowNumbers[i], columnNumbers[i], values[i]);
      }
    }
  }

  /** THE LIST, or a draft of it. */
  private static final class Numbers {
    int length = 0;
    private final int[] items = new int[SIDE];

    void append(int v) {
      if (isLine(length)) {
        items[length] = v;
        length++;
      }
    }

    void clear() {
      length = 0;
    }

    int item(int i) {
      return isLine(i) ? items[i] : 0;
    }

    boolean areBelow(int bound) {
      for (int i = 0; i < SIDE && i < length; i++) {
        if (items[i] >= bound) {
          return false;
        }
      }
      return true;
    }

    boolean areEachBelowOnce(int bound) {
      int seen = 0;
      for (int i = 0; i < SIDE && i < length; i++) {
        seen |= 1 << items[i];
      }
      return length == bound && areBelow(bound) && Integer.bitCount(seen) == bound;
    }
  }

  /** The forms of a table as rows of cells. The scratch table is overwritten. */
  private static final class Forms {
    private Forms() {}

    static boolean isForm(int form, int b) {
      return form >= FORM_TRIPLES && form <= FORM_SLANTS && (form != FORM_BLOCKS || isBlockSide(b));
    }

    static boolean isBlockSide(int b) {
      return b >= 1 && b <= MOST_BLOCK_SIDE;
    }

    static int cellCount(Grid grid, int form, int b, Grid scratch) {
      int n = grid.keptCount();
      switch (form) {
        case FORM_TRIPLES:
          return 3 * n;
        case FORM_BY_ROWS:
          return grid.rowCount + 1 + 2 * n;
        case FORM_BY_COLUMNS:
          return grid.columnCount + 1 + 2 * n;
        case FORM_BLOCKS:
          scratch.becomeBlocks(grid, b);
          return headLength(scratch) + scratch.keptCount() * b * b;
        case FORM_FULL:
          return grid.rowCount * grid.columnCount;
        case FORM_SLANTS:
          return slantCount(grid) * (grid.rowCount + 1);
        default:
          return 0;
      }
    }

    static long cellValue(Grid grid, int form, int b, int i, Grid scratch) {
      switch (form) {
        case FORM_TRIPLES:
          return triplesCell(grid, i);
        case FORM_BY_ROWS:
          return byRowsCell(grid, i);
        case FORM_BY_COLUMNS:
          scratch.becomeTurned(grid);
          return byRowsCell(scratch, i);
        case FORM_BLOCKS:
          scratch.becomeBlocks(grid, b);
          return blocksCell(grid, scratch, b, i);
        case FORM_FULL:
          return fullCell(grid, i);
        case FORM_SLANTS:
          return slantsCell(grid, i);
        default:
          return 0L;
      }
    }

    private static long triplesCell(Grid grid, int i) {
      int place = grid.placeNumber(i / 3);
      switch (i % 3) {
        case 0:
          return place / SIDE;
        case 1:
          return place % SIDE;
        default:
          return grid.value(place / SIDE, place % SIDE);
      }
    }

    private static long byRowsCell(Grid grid, int i) {
      int head = headLength(grid);
      if (i < head) {
        return headCell(grid, i);
      }
      int place = grid.placeNumber(i - head);
      return grid.value(place / SIDE, place % SIDE);
    }

    private static long blocksCell(Grid grid, Grid blocks, int b, int i) {
      int head = headLength(blocks);
      if (i < head) {
        return headCell(blocks, i);
      }
      int area = b * b;
      if (b < 1 || area < 1) {
        return 0L;
      }
      int block = blocks.placeNumber((i - head) / area);
      int inside = (i - head) % area;
      return grid.value(block / SIDE * b + inside / b, block % SIDE * b + inside % b);
    }

    /** How many cells stand ahead of the values in the form by rows. */
    private static int headLength(Grid grid) {
      return grid.rowCount + 1 + grid.keptCount();
    }

    private static int headCell(Grid grid, int i) {
      if (i <= grid.rowCount) {
        return grid.keptAhead(i);
      }
      return grid.placeNumber(i - grid.rowCount - 1) % SIDE;
    }

    private static long fullCell(Grid grid, int i) {
      int columnCount = grid.columnCount;
      return columnCount < 1 ? 0L : grid.value(i / columnCount, i % columnCount);
    }

    private static int slantCount(Grid grid) {
      int n = 0;
      for (int slant = 1 - SIDE; slant < SIDE; slant++) {
        if (grid.keepsOnSlant(slant)) {
          n++;
        }
      }
      return n;
    }

    private static long slantsCell(Grid grid, int i) {
      int left = i;
      for (int slant = 1 - SIDE; slant < SIDE; slant++) {
        if (grid.keepsOnSlant(slant)) {
          if (left == 0) {
            return slant;
          }
          if (left <= grid.rowCount) {
            return grid.value(left - 1, left - 1 + slant);
          }
          left -= grid.rowCount + 1;
        }
      }
      return 0L;
    }
  }

  /** A table read as a graph. A set of nodes is a number with a bit for each of them. */
  private static final class Graph {
    private int size = 0;
    private final int[] arcs = new int[SIDE];
    private final int[] neighbours = new int[SIDE];
    private final int[] reach = new int[SIDE];
    private long[] steps = new long[SIDE];
    private long[] nextSteps = new long[SIDE];

    void read(Grid grid) {
      size = grid.rowCount;
      for (int r = 0; r < SIDE; r++) {
        arcs[r] = grid.columnsOf(r);
      }
      for (int r = 0; r < SIDE; r++) {
        neighbours[r] = (arcs[r] | sourcesOf(r)) & ~(1 << r);
      }
    }

    /** All nodes from which an arc leads to c. */
    private int sourcesOf(int c) {
      int sources = 0;
      for (int r = 0; r < SIDE; r++) {
        if (hasBit(arcs[r], c)) {
          sources |= 1 << r;
        }
      }
      return sources;
    }

    private int allNodes() {
      return isSize(size) ? (1 << size) - 1 : 0;
    }

    long walkSum(Grid grid, int a, int b, int n) {
      if (!isLine(a) || !isLine(b)) {
        return 0L;
      }
      for (int i = 0; i < SIDE; i++) {
        steps[i] = i == a ? 1L : 0L;
      }
      for (int step = 0; step < MOST_STEPS && step < n; step++) {
        walkOn(grid);
      }
      return steps[b];
    }

    private void walkOn(Grid grid) {
      for (int c = 0; c < SIDE; c++) {
        nextSteps[c] = 0L;
      }
      for (int r = 0; r < SIDE; r++) {
        if (steps[r] != 0L) {
          for (int c = 0; c < SIDE; c++) {
            nextSteps[c] += steps[r] * grid.value(r, c);
          }
        }
      }
      long[] old = steps;
      steps = nextSteps;
      nextSteps = old;
    }

    int wayLength(int a, int b) {
      if (!isLine(a) || !isLine(b)) {
        return UNFIT;
      }
      int reached = 1 << a;
      // The shortest way meets no node twice: it has fewer arcs than there are nodes.
      for (int length = 0; length < SIDE; length++) {
        if (hasBit(reached, b)) {
          return length;
        }
        reached |= targetsOf(reached);
      }
      return UNFIT;
    }

    private int targetsOf(int nodes) {
      int targets = 0;
      for (int r = 0; r < SIDE; r++) {
        if (hasBit(nodes, r)) {
          targets |= arcs[r];
        }
      }
      return targets;
    }

    /** Finds what each node reaches, itself included, letting one more node between at a time. */
    void closeReach() {
      for (int r = 0; r < SIDE; r++) {
        reach[r] = arcs[r] | 1 << r;
      }
      for (int between = 0; between < SIDE; between++) {
        for (int r = 0; r < SIDE; r++) {
          if (hasBit(reach[r], between)) {
            reach[r] |= reach[between];
          }
        }
      }
    }

    int leastOfRing(int a) {
      if (!isLine(a)) {
        return 0;
      }
      for (int least = 0; least < a; least++) {
        if (hasBit(reach[a], least) && hasBit(reach[least], a)) {
          return least;
        }
      }
      return a;
    }

    /** How many rings have their least member below the bound. */
    int ringsBelow(int bound) {
      int n = 0;
      for (int node = 0; node < SIDE && node < bound; node++) {
        if (leastOfRing(node) == node) {
          n++;
        }
      }
      return n;
    }

    /** False if arcs between different nodes lead round. */
    boolean sortInto(Numbers order) {
      order.clear();
      int left = allNodes();
      for (int i = 0; i < SIDE && i < size; i++) {
        int next = leastWithoutSource(left);
        if (next < 0) {
          return false;
        }
        order.append(next);
        left &= ~(1 << next);
      }
      return true;
    }

    private int leastWithoutSource(int left) {
      for (int node = 0; node < SIDE; node++) {
        int others = left & ~(1 << node);
        if (hasBit(left, node) && (sourcesOf(node) & others) == 0) {
          return node;
        }
      }
      return -1;
    }

    void narrowInto(Numbers order) {
      order.clear();
      int left = allNodes();
      for (int front = 0; front < SIDE && front < size; front++) {
        // When the front has come to the end, a row is done and the next one begins.
        if (front == order.length) {
          left = moveFewest(left, left, order);
        }
        int around = neighboursOf(order.item(front)) & left;
        left = moveAll(around, left, order);
      }
    }

    /** Appends these nodes, those with the fewest neighbours first: what is left without them. */
    private int moveAll(int nodes, int left, Numbers order) {
      int stillLeft = left;
      for (int i = 0; i < SIDE && (nodes & stillLeft) != 0; i++) {
        stillLeft = moveFewest(nodes & stillLeft, stillLeft, order);
      }
      return stillLeft;
    }

    /** Appends the one of these nodes with the fewest neighbours: what is left without it. */
    private int moveFewest(int nodes, int left, Numbers order) {
      int best = -1;
      int bestCount = SIDE;
      for (int node = 0; node < SIDE; node++) {
        int neighbourCount = Integer.bitCount(neighbours[node]);
        if (hasBit(nodes, node) && neighbourCount < bestCount) {
          best = node;
          bestCount = neighbourCount;
        }
      }
      if (best < 0) {
        return left;
      }
      order.append(best);
      return left & ~(1 << best);
    }

    private int neighboursOf(int node) {
      return isLine(node) ? neighbours[node] : 0;
    }

    /** The width of an order that has each node once. */
    int widthOf(Numbers order) {
      int widest = 0;
      for (int i = 0; i < SIDE && i < order.length; i++) {
        for (int j = 0; j < i; j++) {
          if (hasBit(neighboursOf(order.item(i)), order.item(j))) {
            widest = Math.max(widest, i - j);
          }
        }
      }
      return widest;
    }
  }
}
