import java.io.IOException;
import java.nio.file.Files;
import java.nio.file.Path;
import java.util.TreeSet;

/**
 * Checks of single sentences of the document. What a run of calls leaves is told as a story, so
 * that it can be told again to new objects: an object is promised to work for 512 calls alone.
 */
final class Edges {
  /** A run of calls on a new object. */
  interface Story {
    void tell(KeptTables x);
  }

  /** The one call that is looked at. */
  interface Call {
    long ask(KeptTables x);
  }

  /** These stand for sections of the document where the number of a promise is asked for. */
  static final int TERMS = 0;
  static final int WHAT_IT_IS = -1;

  static final int LOWEST = Integer.MIN_VALUE;
  static final int HIGHEST = Integer.MAX_VALUE;

  private static final Path DOCUMENT = Path.of("../shared/DOC.md");
  private static final int PROMISES = 29;

  private final Checks checks = new Checks("EdgesTest");
  private final TreeSet<Integer> named = new TreeSet<>();
  private final String document;
  private String sentence = "";

  Edges() throws IOException {
    document = Files.exists(DOCUMENT) ? Files.readString(DOCUMENT).replaceAll("\\s+", " ") : "";
  }

  /** All checks from here on are of this sentence, which the document has in these words. */
  void sentence(int promise, String words) {
    String where = section(promise);
    sentence = where + ", \"" + words + "\": ";
    named.add(promise);
    checks.due(sentence + "told by the document", isTold(where, words) ? 1 : 0, 1);
  }

  private static String section(int promise) {
    switch (promise) {
      case TERMS:
        return "Terms";
      case WHAT_IT_IS:
        return "What it is";
      default:
        return "Promise " + promise;
    }
  }

  private boolean isTold(String where, String words) {
    if (document.isEmpty()) {
      return true;
    }
    int from = document.indexOf("## " + where);
    int to = document.indexOf(" ## ", from);
    return from >= 0 && to > from && document.substring(from, to).contains(words);
  }

  void due(String call, long got, long want) {
    checks.due(sentence + call, got, want);
  }

  void dueTable(String what, KeptTables x, int t, String want) {
    checks.dueTable(sentence + what, x, t, want);
  }

  void dueList(String what, KeptTables x, int... want) {
    checks.dueList(sentence + what, x, want);
  }

  /** The call answers this and leaves all as the story has left it. */
  void same(String call, Story story, Call asked, long want) {
    leaves(call, story, asked, want, story);
  }

  /** The call answers this and leaves all as the other story does. */
  void leaves(String call, Story story, Call asked, long want, Story other) {
    KeptTables x = new KeptTables();
    story.tell(x);
    due(call, asked.ask(x), want);
    Story longer = y -> {
      story.tell(y);
      asked.ask(y);
    };
    checks.due(sentence + "what is left by " + call, Pictures.of(longer), Pictures.of(other));
  }

  void end() {
    for (int promise = TERMS; promise <= PROMISES; promise++) {
      checks.due("sentences of promise " + promise, named.contains(promise) ? 1 : 0, 1);
    }
    checks.end();
  }
}
