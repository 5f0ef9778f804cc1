import java.util.ArrayList;
import java.util.HashMap;
import java.util.HashSet;
import java.util.List;
import java.util.Map;
import java.util.Set;

/**
 * FAULT by its own words: from the grammar of the document all TEXTS up to a length are made, and all beginnings up to
 * that length of TEXTS of any length; then each row of signs is a TEXT, ends too early, or has a first byte with which no
 * TEXT goes on.
 */
public final class GrammarTest {
  private static final int MOST_OPEN = 5;
  private static final int TEXTS_A_YEAR = 200;

  private final int length;
  private final String names;
  private final String[] levels;
  private final Map<String, Set<String>> known = new HashMap<>();
  private SoldYear x = new SoldYear();
  private int texts;

  /** The signs of each level that are tried, those of T first, and the names. */
  private GrammarTest(int length, String names, String... levels) {
    this.length = length;
    this.names = names;
    this.levels = levels;
  }

  public static void main(String[] args) {
    Edges.sentence("FAULT: the place of the first byte with which no TEXT goes on; how many there are, if it ends too early.");
    new GrammarTest(5, "b", "|", "&", "<=>", "+-", "*/%").all();
    new GrammarTest(5, "btm", "|", "&", "<", "+", "*").all();
    new GrammarTest(6, "b", "|", "&", "<", "+", "*").all();
    new GrammarTest(7, "t", "|", "", "=", "", "").all();
    new GrammarTest(8, "m", "", "", ">", "", "%").all();
    new GrammarTest(9, "b", "", "", "", "-", "").all();
    new GrammarTest(11, "", "", "", "", "", "").all();
    Checks.end("GrammarTest");
  }

  private void all() {
    Set<String> good = whole(0, 0, length);
    Set<String> begun = begun(0, 0, length);
    StringBuilder signs = new StringBuilder("1!() bakx" + names);
    for (String level : levels) {
      signs.append(level);
    }
    List<String> latest = new ArrayList<>();
    latest.add("");
    for (int n = 0; n < length; n++) {
      List<String> next = new ArrayList<>();
      for (String text : latest) {
        for (int i = 0; i < signs.length(); i++) {
          String longer = text + signs.charAt(i);
          if (begun.contains(longer)) {
            next.add(longer);
            due(longer, good.contains(longer) ? 1 : -10 - longer.length());
          } else if (!isUnnamed(signs.charAt(i))) {
            due(longer, -10 - n);
            due(longer + "1", -10 - n);
            due(longer + ")", -10 - n);
          }
        }
      }
      latest = next;
    }
  }

  /** A name of the USE that this one leaves out of its TEXTS. */
  private boolean isUnnamed(char c) {
    return "btm".indexOf(c) >= 0 && names.indexOf(c) < 0;
  }

  private void due(String text, int answer) {
    if (texts == TEXTS_A_YEAR) {
      x = new SoldYear();
      texts = 0;
    }
    texts++;
    if (text.length() <= 8) {
      Checks.word(x, text);
    } else {
      Checks.word(x, text.substring(0, 8));
      Checks.word(x, text.substring(8));
    }
    Edges.due(text, x.text(0), answer);
  }

  /** All of a level that have n bytes at most; level 0 is T, 5 is Q. */
  private Set<String> whole(int level, int open, int n) {
    String key = "whole " + level + " " + open + " " + n;
    if (n > 0 && !known.containsKey(key)) {
      known.put(key, level == 5 ? wholeOnes(open, n) : wholeRows(level, open, n));
    }
    return n > 0 ? known.get(key) : Set.of();
  }

  private Set<String> wholeRows(int level, int open, int n) {
    Set<String> rows = new HashSet<>();
    for (String start : starts(level, open, n)) {
      join(rows, start, whole(level + 1, open, n - start.length()), n);
    }
    return rows;
  }

  private Set<String> wholeOnes(int open, int n) {
    Set<String> ones = new HashSet<>();
    for (int i = 1; i <= Math.min(4, n); i++) {
      ones.add("1".repeat(i));
    }
    for (char c : names.toCharArray()) {
      ones.add("" + c);
    }
    if (open < MOST_OPEN) {
      join(ones, "!", whole(5, open + 1, n - 1), n);
      for (String inner : whole(0, open + 1, n - 2)) {
        ones.add("(" + inner + ")");
      }
    }
    return ones;
  }

  /** What can stand ahead of a row's last part: nothing, or parts with a sign behind each; for a B one at most. */
  private Set<String> starts(int level, int open, int n) {
    Set<String> starts = new HashSet<>();
    starts.add("");
    List<String> latest = List.of("");
    int most = level == 2 ? 1 : n;
    for (int i = 0; i < most && !latest.isEmpty(); i++) {
      List<String> next = new ArrayList<>();
      for (String start : latest) {
        for (String part : whole(level + 1, open, n - start.length() - 1)) {
          for (char sign : levels[level].toCharArray()) {
            next.add(start + part + sign);
          }
        }
      }
      starts.addAll(next);
      latest = next;
    }
    return starts;
  }

  /** All beginnings that have n bytes at most, of any of a level; what is awaited can always come. */
  private Set<String> begun(int level, int open, int n) {
    String key = "begun " + level + " " + open + " " + n;
    if (!known.containsKey(key)) {
      known.put(key, level == 5 ? begunOnes(open, n) : begunRows(level, open, n));
    }
    return known.get(key);
  }

  private Set<String> begunRows(int level, int open, int n) {
    Set<String> rows = new HashSet<>();
    for (String start : starts(level, open, n)) {
      join(rows, start, begun(level + 1, open, n - start.length()), n);
    }
    return rows;
  }

  private Set<String> begunOnes(int open, int n) {
    Set<String> ones = new HashSet<>(whole(5, open, n));
    ones.add("");
    if (open < MOST_OPEN && n > 0) {
      join(ones, "!", begun(5, open + 1, n - 1), n);
      join(ones, "(", begun(0, open + 1, n - 1), n);
    }
    return ones;
  }

  private static void join(Set<String> to, String start, Set<String> parts, int n) {
    for (String part : parts) {
      if (start.length() + part.length() <= n) {
        to.add(start + part);
      }
    }
  }
}
