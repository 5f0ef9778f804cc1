import java.util.Random;

/** All promises at once: runs of drawn calls (always the same ones), compared with NaiveYear. */
public final class ModelTest {
  private static final int RUNS = 500;
  private static final int CALLS = 512;

  /** The acts by what their arguments are drawn from; a line that stands twice is drawn more often. */
  private static final String[] ACTS = {
    "sale sold county county", "sale sold county county", "saleIs number what", "undo", "name county year",
    "date county day", "day county name of two", "pass days", "thing km county day", "thing km county day",
    "thingIs thing what", "thingIs thing what", "as thing kind", "set thing fact", "set thing fact",
    "age thing county day", "age thing county day", "comes thing county term", "where thing term", "twins",
    "text two", "text two", "text two", "untell two", "paper name of", "paper name of", "paperIs paper what", "burn",
    "may paper number", "rows", "rows", "span paper two", "span paper two", "clerk", "seed any", "comet day term",
    "claim name", "claim name", "breaks sold county county", "least county county", "voice thing voice any",
    "body number", "sheet sheet bits numbers", "put sheet number value", "put sheet number value",
    "put sheet number value", "move sheet number sheet number number", "papers sheet", "judge sheet county year",
    "image", "restore", "tell wait", "check", "count what", "told number"
  };

  /** The NAMES and YEARS around which a run draws most: the midst, both ends of what can be sold, the last YEARS. */
  private static final int[] MIDSTS = {44, 44, 3, 148, 196};

  private final Random draws;
  private final int midst;
  private final Both both = new Both();
  private final SoldYear x = both.x;
  private final NaiveYear y = both.y;

  private ModelTest(int number) {
    draws = new Random(number);
    midst = MIDSTS[number % MIDSTS.length];
  }

  public static void main(String[] args) throws ReflectiveOperationException {
    for (int i = 0; i < RUNS && Checks.allRight(); i++) {
      new ModelTest(i).run();
    }
    Checks.end("ModelTest");
  }

  private void run() throws ReflectiveOperationException {
    int calls = 0;
    while (calls < CALLS && Checks.allRight()) {
      int kind = to(20);
      if (kind == 0) {
        calls += feed(someText());
      } else if (kind == 1) {
        calls += fillSheet();
      } else if (kind == 2) {
        calls += tellRow();
      } else {
        calls += act(ACTS[to(ACTS.length)].split(" "));
      }
    }
    if (!Checks.allRight()) {
      System.out.println(both.story());
    }
  }

  private int act(String[] words) throws ReflectiveOperationException {
    boolean rarer = words[0].equals("undo") || words[0].equals("restore") || words[0].equals("burn");
    if (rarer && to(3) > 0) {
      return 0;
    }
    int fact = to(4);
    Object[] args = new Object[words.length - 1];
    for (int i = 0; i < args.length; i++) {
      args[i] = drawn(words[i + 1]);
    }
    if (words[0].equals("set")) {
      args = new Object[] {args[0], to(20) == 0 ? near(3) : fact, someFact(fact)};
    }
    return ask(words[0], args);
  }

  private int ask(String name, Object... args) throws ReflectiveOperationException {
    both.ask(name, args);
    return 1;
  }

  private int feed(String text) throws ReflectiveOperationException {
    int calls = 0;
    int n = 1;
    for (int i = 0; i < text.length(); i += n) {
      n = to(3) == 0 ? 1 : Math.min(8, text.length() - i);
      long word = draws.nextLong();
      for (int k = n - 1; k >= 0; k--) {
        word = i + k < text.length() ? word << 8 | text.charAt(i + k) : word << 8;
      }
      calls += ask("feed", word, to(40) == 0 ? near(8) : n);
    }
    return calls;
  }

  private int fillSheet() throws ReflectiveOperationException {
    int sheet = to(4);
    int n = to(9);
    int year = someYear();
    int county = to(4);
    boolean papers = to(2) == 0;
    int calls = ask("sheet", sheet, 8 << to(3), n);
    for (int i = 0; i < n; i++) {
      int v = i % 2 == 0 ? someName() : someOf();
      if (!papers && to(9) > 0) {
        v = y.name(county, year + i);
        x.name(county, year + i);
      }
      calls += ask("put", sheet, i, v);
    }
    return calls + (papers ? ask("papers", sheet) : ask("judge", sheet, county, year));
  }

  /** Days of papers, mostly good ones. */
  private int tellRow() throws ReflectiveOperationException {
    int calls = ask("check");
    int n = y.count(2);
    for (int i = 0; i < n; i++) {
      int greatest = to(2);
      int day = y.span(i, greatest);
      x.span(i, greatest);
      calls += ask("tell", day < 0 || to(9) == 0 ? someDay() : day);
    }
    return calls + ask("check");
  }

  private int to(int bound) {
    return draws.nextInt(bound);
  }

  private int drawn(String from) {
    switch (from) {
      case "sold": return to(15) == 0 ? near(150) : midst > 150 ? 1 + to(150) : midst - 6 + to(12);
      case "county": return to(25) == 0 ? near(3) : to(4);
      case "number": return to(15) == 0 ? near(24) : to(8);
      case "what": return to(15) == 0 ? near(8) : to(9);
      case "year": return someYear();
      case "day": return someDay();
      case "name": return someName();
      case "of": return someOf();
      case "two": return to(15) == 0 ? near(1) : to(2);
      case "days": return to(9) == 0 ? near(9999) : 1 + to(to(4) == 0 ? 9999 : 700);
      case "km": return to(25) == 0 ? near(69) : to(70);
      case "thing": return to(25) == 0 ? near(9) : to(Math.max(1, y.count(1)));
      case "kind": return to(25) == 0 ? near(6) : to(7);
      case "fact": return 0;
      case "term": return to(9) == 0 ? near(99) : 1 + to(to(2) == 0 ? 99 : 12);
      case "paper": return to(25) == 0 ? near(7) : to(Math.max(1, y.count(2)));
      case "any": return to(4) == 0 ? draws.nextInt() : to(40) - 20;
      case "voice": return to(25) == 0 ? near(3) : to(4);
      case "sheet": return to(25) == 0 ? near(3) : to(4);
      case "bits": return to(9) == 0 ? near(32) : to(9) == 0 ? 0 : 8 << to(3);
      case "numbers": return to(9) == 0 ? near(24) : to(25);
      case "value": return to(4) == 0 ? draws.nextInt() : to(2) == 0 ? someName() : to(365);
      case "wait": return to(3) == 0 ? draws.nextInt() : someDay();
      default: throw new IllegalStateException(from);
    }
  }

  /** Within 0 .. most, just beyond it, or far away. */
  private int near(int most) {
    int[] values = {-1, most + 1, Integer.MIN_VALUE, Integer.MAX_VALUE, 0, 1, most - 1, most};
    return values[to(values.length)];
  }

  private int someName() {
    int kind = to(9);
    return kind == 0 ? near(206) : kind == 1 ? 190 + to(17) : kind == 2 ? to(207) : midst - 6 + to(12);
  }

  private int someYear() {
    int kind = to(9);
    return kind == 0 ? near(199) : kind == 1 ? 190 + to(10) : midst - 8 + to(16);
  }

  private int someDay() {
    if (to(25) == 0) {
      return near(72999);
    }
    int year = to(5) == 0 ? to(200) : Math.max(0, Math.min(199, midst - 8 + to(16)));
    return year * 365 + (to(3) == 0 ? to(365) : to(4));
  }

  private int someOf() {
    return to(9) == 0 ? near(364) : to(3) == 0 ? to(365) : to(4);
  }

  private int someFact(int what) {
    return what == 3 ? someDay() : to(25) == 0 ? near(9) : to(what == 0 ? 7 : what == 1 ? 10 : 4);
  }

  private String someText() {
    if (to(3) == 0) {
      String alphabet = "()!|&<=>+-*/%0123456789btmakbtmakbtmak (((!!!";
      StringBuilder s = new StringBuilder();
      for (int i = to(14); i >= 0; i--) {
        s.append(alphabet.charAt(to(alphabet.length())));
      }
      return s.toString();
    }
    String text = part(to(5), to(2) == 0 ? "btm" : "akm");
    return to(4) == 0 ? text.substring(0, to(text.length() + 1)) : text;
  }

  private String part(int depth, String names) {
    int kind = depth == 0 ? to(3) : to(9);
    if (kind == 0) {
      return "" + to(to(2) == 0 ? 20 : 12000);
    }
    if (kind < 3) {
      return "" + names.charAt(to(3));
    }
    if (kind == 3) {
      return "!" + part(depth - 1, names);
    }
    if (kind == 4) {
      return "(" + part(depth - 1, names) + ")";
    }
    String signs = "|&<=>+-*/%+-*/%";
    String joined = part(depth - 1, names) + signs.charAt(to(signs.length())) + part(depth - 1, names);
    return to(2) == 0 ? "(" + joined + ")" : joined;
  }
}
