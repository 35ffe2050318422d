/** All that can be seen of an object, as a text. */
final class Pictures {
  /** So few places are read from one object that it stays far below its 512 calls. */
  private static final int PLACES_AT_ONCE = 100;

  private Pictures() {}

  static String of(Edges.Story story) {
    StringBuilder text = new StringBuilder();
    for (int t = 0; t < 8; t++) {
      text.append(t).append(" is ");
      addTable(text, story, t);
      text.append("; ");
    }
    addList(text, story);
    addTriples(text, story);
    return text.toString();
  }

  private static KeptTables told(Edges.Story story) {
    KeptTables x = new KeptTables();
    story.tell(x);
    return x;
  }

  private static void addTable(StringBuilder text, Edges.Story story, int t) {
    KeptTables x = told(story);
    int keptCount = x.count(t, 2);
    text.append(x.count(t, 0)).append('x').append(x.count(t, 1)).append(':').append(keptCount);
    for (int from = 0; from < keptCount; from += PLACES_AT_ONCE) {
      addPlaces(text, told(story), t, from, Math.min(keptCount, from + PLACES_AT_ONCE));
    }
  }

  private static void addPlaces(StringBuilder text, KeptTables x, int t, int from, int to) {
    for (int k = from; k < to; k++) {
      int place = x.place(t, k);
      text.append(' ').append(place / 16).append(',').append(place % 16);
      text.append('=').append(x.at(t, place / 16, place % 16));
    }
  }

  private static void addList(StringBuilder text, Edges.Story story) {
    KeptTables x = told(story);
    text.append("list:");
    for (int i = 0; i < 16 && x.listed(i) != -2; i++) {
      text.append(' ').append(x.listed(i));
    }
  }

  /** THE TRIPLES are seen by what they make of a table that holds nothing. */
  private static void addTriples(StringBuilder text, Edges.Story story) {
    KeptTables x = told(story);
    x.table(0, 16, 16);
    text.append("; ").append(x.count(0, 4)).append(" triples:");
    int keptCount = x.join(0);
    addPlaces(text, x, 0, 0, keptCount);
  }
}
