/** What the tests share: answers that are due, and a TEXT fed byte by byte. */
final class Checks {
  static final int LOW = -1000000000;
  static final int BEYOND = LOW - 1;
  static final int NONE = LOW - 2;
  static final int STATE = LOW - 3;
  static final int FULL = LOW - 4;
  static final int KIND = LOW - 5;
  static final int PARTED = LOW - 6;

  private static int asked;
  private static int wrong;

  private Checks() {
  }

  static void due(String call, long got, long want) {
    asked++;
    if (got != want) {
      wrong++;
      if (wrong <= 40) {
        System.out.println(call + " answered " + got + ", due is " + want);
      }
    }
  }

  static boolean allRight() {
    return wrong == 0;
  }

  static int feed(SoldYear x, String text) {
    int held = 0;
    for (int i = 0; i < text.length(); i++) {
      held = x.feed(text.charAt(i), 1);
    }
    return held;
  }

  /** A TEXT of eight bytes at most, fed as one word. */
  static int word(SoldYear x, String text) {
    long word = 0;
    for (int i = text.length() - 1; i >= 0; i--) {
      word = word << 8 | text.charAt(i);
    }
    return x.feed(word, text.length());
  }

  static int text(SoldYear x, int use, String text) {
    feed(x, text);
    return x.text(use);
  }

  static void end(String test) {
    System.out.println(test + ": " + asked + " answers, " + wrong + " not as due");
    if (wrong != 0) {
      System.exit(1);
    }
  }
}
