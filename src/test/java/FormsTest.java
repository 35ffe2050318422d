/** Promises 21 to 23: the forms of a table and what they cost. */
public final class FormsTest {
  private static final Checks CHECKS = new Checks("FormsTest");

  public static void main(String[] args) {
    refused();
    forms();
    blocksOfAllSides();
    blocksBeyondTheTable();
    slantsOfAWideTable();
    emptyTable();
    cheapest();
    formsChangeNothing();
    CHECKS.end();
  }

  private static void due(String call, long got, long want) {
    CHECKS.due(call, got, want);
  }

  private static void dueForm(KeptTables x, int t, int form, int b, long... cells) {
    String name = "form " + form + " with b " + b;
    due("21 cost of " + name, x.cost(t, form, b), cells.length);
    for (int i = 0; i < cells.length; i++) {
      due("23 cell " + i + " of " + name, x.cell(t, form, b, i), cells[i]);
    }
    due("23 cell -1 of " + name, x.cell(t, form, b, -1), 0);
    due("23 cell beyond " + name, x.cell(t, form, b, cells.length), 0);
    due("23 last cell of all of " + name, x.cell(t, form, b, Integer.MAX_VALUE), 0);
  }

  private static void refused() {
    KeptTables x = new KeptTables();
    due("21 cost, no table", x.cost(0, 6, 0), -1);
    due("22 cheapest, no table", x.cheapest(0, 0), -1);
    due("23 cell, no table", x.cell(0, 4, 1, 0), 0);
    Checks.make(x, 0, 1, 1, 0, 0, 9);
    due("21 cost(8)", x.cost(8, 0, 1), -1);
    due("22 cheapest(-1)", x.cheapest(-1, 1), -1);
    due("21 form -1", x.cost(0, -1, 1), -2);
    due("21 form 6", x.cost(0, 6, 1), -2);
    due("21 blocks of 0", x.cost(0, 3, 0), -2);
    due("21 blocks of 5", x.cost(0, 3, 5), -2);
    due("21 b counts for nothing", x.cost(0, 4, 5), 1);
    due("21 b counts for nothing", x.cost(0, 0, -1), 3);
    due("22 b 0", x.cheapest(0, 0), -2);
    due("22 b 5", x.cheapest(0, 5), -2);
    due("23 form -1", x.cell(0, -1, 1, 0), 0);
    due("23 form 6", x.cell(0, 6, 1, 0), 0);
    due("23 blocks of 0", x.cell(0, 3, 0, 1), 0);
    due("23 blocks of 5", x.cell(0, 3, 5, 1), 0);
    due("23 b counts for nothing", x.cell(0, 4, 5, 0), 9);
    due("23 cell(8)", x.cell(8, 4, 1, 0), 0);
  }

  /** A table of 3 x 4: 5 at (0, 3), 0 at (1, 0), 7 at (2, 0), 8 at (2, 3). */
  private static void forms() {
    KeptTables x = new KeptTables();
    Checks.make(x, 0, 3, 4, 2, 3, 8, 0, 3, 5, 2, 0, 7, 1, 0, 0);
    dueForm(x, 0, 0, 0, 0, 3, 5, 1, 0, 0, 2, 0, 7, 2, 3, 8);
    dueForm(x, 0, 1, 0, 0, 1, 2, 4, 3, 0, 0, 3, 5, 0, 7, 8);
    dueForm(x, 0, 2, 0, 0, 2, 2, 2, 4, 1, 2, 0, 2, 0, 7, 5, 8);
    dueForm(x, 0, 4, 0, 0, 0, 0, 5, 0, 0, 0, 0, 7, 0, 0, 8);
    dueForm(x, 0, 5, 0, -2, 0, 0, 7, -1, 0, 0, 0, 1, 0, 0, 8, 3, 5, 0, 0);
  }

  private static void blocksOfAllSides() {
    KeptTables x = new KeptTables();
    Checks.make(x, 0, 3, 4, 2, 3, 8, 0, 3, 5, 2, 0, 7, 1, 0, 0);
    dueForm(x, 0, 3, 1, 0, 1, 2, 4, 3, 0, 0, 3, 5, 0, 7, 8);
    dueForm(x, 0, 3, 2,
        0, 2, 4, 0, 1, 0, 1, 0, 0, 0, 0, 0, 5, 0, 0, 7, 0, 0, 0, 0, 8, 0, 0);
    dueForm(x, 0, 3, 3,
        0, 2, 0, 1, 0, 0, 0, 0, 0, 0, 7, 0, 0, 5, 0, 0, 0, 0, 0, 8, 0, 0);
    dueForm(x, 0, 3, 4, 0, 1, 0, 0, 0, 0, 5, 0, 0, 0, 0, 7, 0, 0, 8, 0, 0, 0, 0);
  }

  /** Blocks of 3 reach to row and column 17 of a table of 16 x 16. */
  private static void blocksBeyondTheTable() {
    KeptTables x = new KeptTables();
    Checks.make(x, 0, 16, 16, 15, 15, 6);
    dueForm(x, 0, 3, 3, 0, 0, 0, 0, 0, 0, 1, 5, 6, 0, 0, 0, 0, 0, 0, 0, 0);
  }

  private static void slantsOfAWideTable() {
    KeptTables x = new KeptTables();
    Checks.make(x, 0, 1, 16, 0, 15, 6, 0, 0, 4);
    dueForm(x, 0, 5, 0, 0, 4, 15, 6);
    x.turn(0, 0);
    dueForm(x, 0, 5, 0,
        -15, 0, 0, 0, 0, 0, 0, 0, 0, 0, 0, 0, 0, 0, 0, 0, 6,
        0, 4, 0, 0, 0, 0, 0, 0, 0, 0, 0, 0, 0, 0, 0, 0, 0);
  }

  private static void emptyTable() {
    KeptTables x = new KeptTables();
    x.table(0, 3, 2);
    dueForm(x, 0, 0, 1);
    dueForm(x, 0, 1, 1, 0, 0, 0, 0);
    dueForm(x, 0, 2, 1, 0, 0, 0);
    dueForm(x, 0, 3, 2, 0, 0, 0);
    dueForm(x, 0, 4, 1, 0, 0, 0, 0, 0, 0);
    dueForm(x, 0, 5, 1);
    due("22 triples ahead of slants", x.cheapest(0, 2), 0);
  }

  private static void cheapest() {
    KeptTables x = new KeptTables();
    Checks.make(x, 0, 1, 5, 0, 0, 1, 0, 1, 1, 0, 2, 1);
    due("22 full", x.cheapest(0, 1), 4);
    Checks.make(x, 0, 2, 16, 0, 0, 1, 0, 2, 1, 0, 4, 1, 1, 7, 1);
    due("22 by rows: 11 of 12, 11, 25, 11, 32, 12", x.cheapest(0, 1), 1);
    x.turn(0, 0);
    due("22 by columns", x.cheapest(0, 1), 2);
    Checks.make(x, 0, 4, 4, 0, 0, 1, 1, 1, 1, 2, 2, 1, 3, 3, 1);
    due("22 slants", x.cheapest(0, 4), 5);
    Checks.make(x, 0, 8, 8,
        0, 0, 1, 0, 1, 1, 0, 2, 1, 0, 3, 1, 1, 0, 1, 1, 1, 1, 1, 2, 1, 1, 3, 1,
        2, 0, 1, 2, 1, 1, 2, 2, 1, 2, 3, 1, 3, 0, 1, 3, 1, 1, 3, 2, 1, 3, 3, 1);
    due("22 blocks of 4", x.cheapest(0, 4), 3);
    due("22 blocks of 1 as dear as by rows", x.cheapest(0, 1), 1);
  }

  private static void formsChangeNothing() {
    KeptTables x = new KeptTables();
    Checks.make(x, 0, 3, 4, 2, 3, 8, 0, 3, 5);
    String before = Checks.shown(x, 0);
    for (int form = 0; form < 6; form++) {
      x.cost(0, form, 2);
      x.cell(0, form, 2, 3);
    }
    x.cheapest(0, 2);
    CHECKS.dueTable("21 the table", x, 0, before);
    due("21 other tables", x.count(1, 0), -1);
  }
}
