import java.util.ArrayList;
import java.util.Comparator;
import java.util.List;
import java.util.Map;
import java.util.TreeMap;
import java.util.TreeSet;

/** The document word by word, with maps and lists and without a thought for speed. */
final class PlainModel {
  private static final class Table {
    final int rows;
    final int columns;
    /** By 16 r + c, which is the order of the places. */
    final TreeMap<Integer, Long> kept = new TreeMap<>();

    Table(int rows, int columns) {
      this.rows = rows;
      this.columns = columns;
    }

    long at(int r, int c) {
      return inside(r, c) ? kept.getOrDefault(16 * r + c, 0L) : 0L;
    }

    boolean keeps(int r, int c) {
      return inside(r, c) && kept.containsKey(16 * r + c);
    }

    boolean inside(int r, int c) {
      return r >= 0 && c >= 0 && r < rows && c < columns;
    }
  }

  private final Table[] tables = new Table[8];
  private final List<long[]> triples = new ArrayList<>();
  private List<Integer> list = new ArrayList<>();

  private Table get(int t) {
    return t >= 0 && t < 8 ? tables[t] : null;
  }

  private static boolean noSlot(int t) {
    return t < 0 || t > 7;
  }

  private int put(Table made, int to) {
    if (made.kept.size() > 128) {
      return -4;
    }
    tables[to] = made;
    return made.kept.size();
  }

  int table(int t, int rows, int columns) {
    if (noSlot(t)) return -1;
    if (rows < 1 || rows > 16 || columns < 1 || columns > 16) return -2;
    tables[t] = new Table(rows, columns);
    return 1;
  }

  int triple(int r, int c, long v) {
    if (r < 0 || r > 15 || c < 0 || c > 15) return -2;
    if (triples.size() == 64) return -4;
    triples.add(new long[] {r, c, v});
    return triples.size();
  }

  int list(int v) {
    if (v < 0 || v > 15) return -2;
    if (list.size() == 16) return -4;
    list.add(v);
    return list.size();
  }

  int listed(int i) {
    return i < 0 || i >= list.size() ? -2 : list.get(i);
  }

  int join(int t) {
    Table old = get(t);
    if (old == null) return -1;
    List<long[]> used = new ArrayList<>(triples);
    triples.clear();
    Table made = new Table(old.rows, old.columns);
    made.kept.putAll(old.kept);
    for (long[] one : used) {
      if (!old.inside((int) one[0], (int) one[1])) return -3;
      made.kept.merge((int) (16 * one[0] + one[1]), one[2], Long::sum);
    }
    return put(made, t);
  }

  int count(int t, int what) {
    Table x = get(t);
    if (x == null) return -1;
    switch (what) {
      case 0: return x.rows;
      case 1: return x.columns;
      case 2: return x.kept.size();
      case 3: return (int) x.kept.values().stream().filter(v -> v == 0L).count();
      case 4: return triples.size();
      case 5: return list.size();
      default: return -2;
    }
  }

  long at(int t, int r, int c) {
    Table x = get(t);
    return x == null ? 0L : x.at(r, c);
  }

  int kept(int t, int r, int c) {
    Table x = get(t);
    if (x == null) return -1;
    if (!x.inside(r, c)) return -2;
    return x.keeps(r, c) ? x.kept.headMap(16 * r + c).size() : -3;
  }

  int place(int t, int k) {
    Table x = get(t);
    if (x == null) return -1;
    return k < 0 || k >= x.kept.size() ? -2 : new ArrayList<>(x.kept.keySet()).get(k);
  }

  int set(int t, int r, int c, long v) {
    int refusal = kept(t, r, c);
    if (refusal < 0) return refusal;
    get(t).kept.put(16 * r + c, v);
    return 1;
  }

  int prune(int t) {
    Table x = get(t);
    if (x == null) return -1;
    int n = count(t, 3);
    x.kept.values().removeIf(v -> v == 0L);
    return n;
  }

  int add(int a, int b, int to, long x, long y) {
    Table p = get(a);
    Table q = get(b);
    if (p == null || q == null || noSlot(to)) return -1;
    if (p.rows != q.rows || p.columns != q.columns) return -3;
    Table made = new Table(p.rows, p.columns);
    TreeSet<Integer> places = new TreeSet<>(p.kept.keySet());
    places.addAll(q.kept.keySet());
    for (int i : places) {
      made.kept.put(i, x * p.at(i / 16, i % 16) + y * q.at(i / 16, i % 16));
    }
    return put(made, to);
  }

  int times(int a, int b, int to) {
    Table p = get(a);
    Table q = get(b);
    if (p == null || q == null || noSlot(to)) return -1;
    if (p.columns != q.rows) return -3;
    Table made = new Table(p.rows, q.columns);
    for (Map.Entry<Integer, Long> s : p.kept.entrySet()) {
      for (Map.Entry<Integer, Long> u : q.kept.entrySet()) {
        if (s.getKey() % 16 == u.getKey() / 16) {
          int i = s.getKey() / 16 * 16 + u.getKey() % 16;
          made.kept.merge(i, s.getValue() * u.getValue(), Long::sum);
        }
      }
    }
    return put(made, to);
  }

  int each(int a, int b, int to) {
    Table p = get(a);
    Table q = get(b);
    if (p == null || q == null || noSlot(to)) return -1;
    if (p.rows != q.rows || p.columns != q.columns) return -3;
    Table made = new Table(p.rows, p.columns);
    p.kept.forEach((i, v) -> {
      if (q.kept.containsKey(i)) made.kept.put(i, v * q.kept.get(i));
    });
    return put(made, to);
  }

  int mask(int a, int b, int to, boolean in) {
    Table p = get(a);
    Table q = get(b);
    if (p == null || q == null || noSlot(to)) return -1;
    if (p.rows != q.rows || p.columns != q.columns) return -3;
    Table made = new Table(p.rows, p.columns);
    p.kept.forEach((i, v) -> {
      if (q.kept.containsKey(i) == in) made.kept.put(i, v);
    });
    return put(made, to);
  }

  private static Table turned(Table p) {
    Table made = new Table(p.columns, p.rows);
    p.kept.forEach((i, v) -> made.kept.put(i % 16 * 16 + i / 16, v));
    return made;
  }

  int turn(int a, int to) {
    Table p = get(a);
    if (p == null || noSlot(to)) return -1;
    return put(turned(p), to);
  }

  int rows(int a, int to) {
    Table p = get(a);
    if (p == null || noSlot(to)) return -1;
    List<Integer> used = list;
    list = new ArrayList<>();
    if (used.isEmpty()) return -3;
    Table made = new Table(used.size(), p.columns);
    for (int i = 0; i < used.size(); i++) {
      if (used.get(i) >= p.rows) return -3;
      for (int c = 0; c < p.columns; c++) {
        if (p.keeps(used.get(i), c)) made.kept.put(16 * i + c, p.at(used.get(i), c));
      }
    }
    return put(made, to);
  }

  /** The slope by a value is what the sum gains for one more of it: the sum is linear in each. */
  int slopes(int a, int b, int c, int to, boolean first) {
    Table p = get(a);
    Table q = get(b);
    Table w = get(c);
    if (p == null || q == null || w == null || noSlot(to)) return -1;
    if (p.columns != q.rows || p.rows != w.rows || q.columns != w.columns) return -3;
    Table of = first ? p : q;
    Table made = new Table(of.rows, of.columns);
    long before = weighed(p, q, w);
    for (int i : new ArrayList<>(of.kept.keySet())) {
      long v = of.kept.get(i);
      // A copy is moved, as a and b may be one table.
      Table moved = new Table(of.rows, of.columns);
      moved.kept.putAll(of.kept);
      moved.kept.put(i, v + 1L);
      made.kept.put(i, (first ? weighed(moved, q, w) : weighed(p, moved, w)) - before);
    }
    return put(made, to);
  }

  private static long weighed(Table p, Table q, Table w) {
    long sum = 0L;
    for (Map.Entry<Integer, Long> one : w.kept.entrySet()) {
      for (int k = 0; k < p.columns; k++) {
        sum += one.getValue() * p.at(one.getKey() / 16, k) * q.at(k, one.getKey() % 16);
      }
    }
    return sum;
  }

  long sum(int t, boolean byRow, int i) {
    Table x = get(t);
    if (x == null) return 0L;
    return x.kept.entrySet().stream()
        .filter(e -> (byRow ? e.getKey() / 16 : e.getKey() % 16) == i)
        .mapToLong(Map.Entry::getValue)
        .sum();
  }

  private static List<Long> form(Table x, int form, int b) {
    switch (form) {
      case 0: return triplesForm(x);
      case 1: return blocksForm(x, 1);
      case 2: return blocksForm(turned(x), 1);
      case 3: return blocksForm(x, b);
      case 4: return fullForm(x);
      default: return slantsForm(x);
    }
  }

  private static List<Long> triplesForm(Table x) {
    List<Long> cells = new ArrayList<>();
    x.kept.forEach((i, v) -> cells.addAll(List.of((long) (i / 16), (long) (i % 16), v)));
    return cells;
  }

  private static List<Long> blocksForm(Table x, int b) {
    List<Long> heads = new ArrayList<>();
    List<Long> columns = new ArrayList<>();
    List<Long> values = new ArrayList<>();
    for (int r = 0; r < x.rows; r += b) {
      heads.add((long) columns.size());
      for (int c = 0; c < x.columns; c += b) {
        List<Long> block = new ArrayList<>();
        boolean any = false;
        for (int i = 0; i < b * b; i++) {
          any |= x.keeps(r + i / b, c + i % b);
          block.add(x.at(r + i / b, c + i % b));
        }
        if (any) {
          columns.add((long) (c / b));
          values.addAll(block);
        }
      }
    }
    heads.add((long) columns.size());
    heads.addAll(columns);
    heads.addAll(values);
    return heads;
  }

  private static List<Long> fullForm(Table x) {
    List<Long> cells = new ArrayList<>();
    for (int r = 0; r < x.rows; r++) {
      for (int c = 0; c < x.columns; c++) {
        cells.add(x.at(r, c));
      }
    }
    return cells;
  }

  private static List<Long> slantsForm(Table x) {
    TreeSet<Integer> slants = new TreeSet<>();
    x.kept.keySet().forEach(i -> slants.add(i % 16 - i / 16));
    List<Long> cells = new ArrayList<>();
    for (int slant : slants) {
      cells.add((long) slant);
      for (int r = 0; r < x.rows; r++) {
        cells.add(x.at(r, r + slant));
      }
    }
    return cells;
  }

  int cost(int t, int form, int b) {
    Table x = get(t);
    if (x == null) return -1;
    if (form < 0 || form > 5 || form == 3 && (b < 1 || b > 4)) return -2;
    return form(x, form, b).size();
  }

  int cheapest(int t, int b) {
    Table x = get(t);
    if (x == null) return -1;
    if (b < 1 || b > 4) return -2;
    int best = 5;
    for (int form = 4; form >= 0; form--) {
      if (form(x, form, b).size() <= form(x, best, b).size()) best = form;
    }
    return best;
  }

  long cell(int t, int form, int b, int i) {
    int n = cost(t, form, b);
    return i < 0 || i >= n ? 0L : form(get(t), form, b).get(i);
  }

  private static boolean noGraph(Table x) {
    return x.rows != x.columns;
  }

  private static boolean noNode(Table x, int a) {
    return a < 0 || a >= x.rows;
  }

  long walks(int t, int a, int b, int n) {
    Table x = get(t);
    if (x == null || noNode(x, a) || noNode(x, b) || n < 0 || n > 60 || noGraph(x)) return 0L;
    // Counted from the end: how walks of ever more steps lead from each node to b.
    long[] from = new long[x.rows];
    from[b] = 1L;
    for (int step = 0; step < n; step++) {
      long[] longer = new long[x.rows];
      x.kept.forEach((i, v) -> longer[i / 16] += v * from[i % 16]);
      System.arraycopy(longer, 0, from, 0, x.rows);
    }
    return from[a];
  }

  private static int[][] ways(Table x) {
    int[][] d = new int[x.rows][x.rows];
    for (int r = 0; r < x.rows; r++) {
      for (int c = 0; c < x.rows; c++) {
        d[r][c] = r == c ? 0 : x.keeps(r, c) ? 1 : 1000;
      }
    }
    for (int k = 0; k < x.rows; k++) {
      for (int r = 0; r < x.rows; r++) {
        for (int c = 0; c < x.rows; c++) {
          d[r][c] = Math.min(d[r][c], d[r][k] + d[k][c]);
        }
      }
    }
    return d;
  }

  int way(int t, int a, int b) {
    Table x = get(t);
    if (x == null) return -1;
    if (noNode(x, a) || noNode(x, b)) return -2;
    if (noGraph(x)) return -3;
    int length = ways(x)[a][b];
    return length < 1000 ? length : -3;
  }

  private static int[] rings(Table x) {
    int[][] d = ways(x);
    int[] ring = new int[x.rows];
    int n = 0;
    for (int a = 0; a < x.rows; a++) {
      ring[a] = -1;
      for (int b = 0; b < a; b++) {
        if (d[a][b] < 1000 && d[b][a] < 1000) ring[a] = ring[b];
      }
      if (ring[a] < 0) ring[a] = n++;
    }
    return ring;
  }

  private static int ringCount(Table x) {
    int n = 0;
    for (int ring : rings(x)) {
      n = Math.max(n, ring + 1);
    }
    return n;
  }

  int ring(int t, int a) {
    Table x = get(t);
    if (x == null) return -1;
    if (a != -1 && noNode(x, a)) return -2;
    if (noGraph(x)) return -3;
    return a == -1 ? ringCount(x) : rings(x)[a];
  }

  int sort(int t) {
    Table x = get(t);
    if (x == null) return -1;
    if (noGraph(x) || ringCount(x) < x.rows) return -3;
    List<Integer> made = new ArrayList<>();
    while (made.size() < x.rows) {
      for (int node = 0; node < x.rows; node++) {
        boolean free = !made.contains(node);
        for (int from = 0; from < x.rows; from++) {
          if (from != node && !made.contains(from) && x.keeps(from, node)) free = false;
        }
        if (free) {
          made.add(node);
          break;
        }
      }
    }
    list = made;
    return made.size();
  }

  private static List<Integer> neighbours(Table x, int node) {
    List<Integer> found = new ArrayList<>();
    for (int other = 0; other < x.rows; other++) {
      if (other != node && (x.keeps(node, other) || x.keeps(other, node))) found.add(other);
    }
    return found;
  }

  int narrow(int t) {
    Table x = get(t);
    if (x == null) return -1;
    if (noGraph(x)) return -3;
    Comparator<Integer> fewest = Comparator.comparing(node -> neighbours(x, node).size());
    fewest = fewest.thenComparing(Comparator.naturalOrder());
    List<Integer> open = new ArrayList<>();
    for (int node = 0; node < x.rows; node++) {
      open.add(node);
    }
    open.sort(fewest);
    List<Integer> made = new ArrayList<>();
    while (!open.isEmpty()) {
      List<Integer> row = new ArrayList<>();
      row.add(open.remove(0));
      for (int i = 0; i < row.size(); i++) {
        List<Integer> next = neighbours(x, row.get(i));
        next.retainAll(open);
        next.sort(fewest);
        row.addAll(next);
        open.removeAll(next);
      }
      made.addAll(row);
    }
    list = made;
    return width(t);
  }

  int width(int t) {
    Table x = get(t);
    if (x == null) return -1;
    if (noGraph(x) || list.size() != x.rows) return -3;
    for (int node = 0; node < x.rows; node++) {
      if (!list.contains(node)) return -3;
    }
    int widest = 0;
    for (int node = 0; node < x.rows; node++) {
      for (int other : neighbours(x, node)) {
        widest = Math.max(widest, Math.abs(list.indexOf(node) - list.indexOf(other)));
      }
    }
    return widest;
  }
}
