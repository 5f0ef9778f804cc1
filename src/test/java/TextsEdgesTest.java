/** The boundaries in promises 17 to 19 and in what the terms say of THE TAPE, TEXTS and USES. */
public final class TextsEdgesTest {
  public static void main(String[] args) {
    bytesOfWord();
    lowestFirst();
    sixtyBytes();
    tapeRefusals();
    uses();
    faultOfNothing();
    faultsLeave();
    longestTexts();
    digits();
    namesOfUses();
    chains();
    comparisons();
    brackets();
    openAtOnce();
    openOnesClosed();
    otherBytes();
    everyPrefix();
    wraps();
    quotients();
    truths();
    heldAges();
    heldWorths();
    untold();
    Checks.end("TextsEdgesTest");
  }

  private static void bytesOfWord() {
    Edges.sentence("The n lowest bytes (1 .. 8) of a word, the lowest first, come to THE TAPE: how many there are. BEYOND. "
        + "FULL.");
    Edges.within("feed", 1, 8, (x, v) -> x.feed(0x6161616161616161L, v), v -> 5 + v);
  }

  /** An "a" as the only byte that is no digit: where the FAULT is tells where it came to. */
  private static void lowestFirst() {
    Edges.sentence("The n lowest bytes (1 .. 8) of a word, the lowest first");
    for (int n = 1; n <= 8; n++) {
      for (int place = 0; place < 8; place++) {
        SoldYear x = new SoldYear();
        long word = 0x2929292929292929L ^ (0x29L ^ 0x61L) << (8 * place);
        Edges.due("n " + n, x.feed(word, n), n);
        Edges.due("n " + n + ", a at " + place, x.text(1), place > 0 ? -10 : n == 1 ? 1 : -11);
      }
      SoldYear y = new SoldYear();
      long word = 0x3132333435363738L;
      y.feed(word, Math.min(n, 4));
      Edges.due("digits", y.text(0), 1);
      y.thing(60, 0, 0);
      int value = 0;
      for (int i = 0; i < Math.min(n, 4); i++) {
        value = value * 10 + (int) (word >> (8 * i) & 15);
      }
      Edges.due("the lowest is the first digit", y.thingIs(0, 4), Math.min(999, value));
    }
    SoldYear x = new SoldYear();
    Edges.due("the highest byte", x.feed(Long.MIN_VALUE, 8), 8);
    Edges.due("zeros", x.text(0), -10);
    Edges.due("a sign above 127", x.feed(-1L, 1), 1);
    Edges.due("it is no text", x.text(0), -10);
  }

  private static void sixtyBytes() {
    Edges.sentence("TEXTS are read from THE TAPE (bytes, at most 60)");
    for (int n = 1; n <= 8; n++) {
      for (int held = 60 - n - 1; held <= 60; held++) {
        SoldYear x = new SoldYear();
        fill(x, held);
        int due = held + n <= 60 ? held + n : Checks.FULL;
        Edges.due(n + " behind " + held, x.feed(0, n), due);
        Edges.due("count", x.count(4), held + n <= 60 ? held + n : held);
        Edges.due("told", x.told(4), held + n <= 60 ? 0 : 1);
      }
    }
    Edges.refused("one too many", Checks.FULL, x -> fill(x, 55), x -> x.feed(97, 1));
    Edges.refused("two, and there is room for one", Checks.FULL, x -> fill(x, 54), x -> x.feed(97, 2));
    Edges.refused("eight, and there is room for seven", Checks.FULL, x -> fill(x, 48), x -> x.feed(97, 8));
  }

  private static long fill(SoldYear x, int n) {
    int left = n;
    while (left > 0) {
      x.feed(0x2b612b612b612b61L, Math.min(8, left));
      left -= 8;
    }
    return 0;
  }

  private static void tapeRefusals() {
    Edges.sentence("Each act tells its ERRORS in the order in which they are asked");
    Edges.refused("BEYOND ahead of FULL", Checks.BEYOND, x -> fill(x, 55), x -> x.feed(97, 0));
    Edges.refused("BEYOND ahead of FULL", Checks.BEYOND, x -> fill(x, 55), x -> x.feed(97, 9));
  }

  private static void uses() {
    Edges.sentence("THE TAPE, which is empty then, is the TEXT of a USE (0, 1), in place of one ahead: 1. BEYOND (THE TAPE "
        + "stays).");
    Edges.within("text", 0, 1, SoldYear::text, v -> v == 0 ? -10 : 1);
    SoldYear x = new SoldYear();
    x.thing(60, 0, 0);
    Checks.text(x, 0, "3");
    Edges.due("the text", x.thingIs(0, 4), 3);
    Checks.word(x, "4");
    Edges.due("use -1", x.text(-1), Checks.BEYOND);
    Edges.due("use 2", x.text(2), Checks.BEYOND);
    Edges.due("the one ahead", x.thingIs(0, 4), 3);
    Edges.due("the tape stays", x.count(4), 1);
    Edges.due("in place of it", x.text(0), 1);
    Edges.due("the text", x.thingIs(0, 4), 4);
    Edges.due("the tape is empty", x.count(4), 0);
    Checks.word(x, "5");
    Edges.due("another use", x.text(1), 1);
    Edges.due("the age's text stays", x.thingIs(0, 4), 4);
    Edges.due("the worth's", x.thingIs(0, 5), 5);
    Edges.due("from the tape's begin again", Checks.word(x, "6"), 1);
  }

  private static void faultOfNothing() {
    Edges.sentence("-10 less the FAULT (no ERROR; the one ahead stays; THE TAPE is empty, too).");
    SoldYear x = Edges.rich();
    Edges.due("a text", x.text(1), 1);
    Edges.due("the empty tape", x.text(0), -10);
    Edges.due("the empty tape, the other use", x.text(1), -10);
    for (int k = 1; k <= 6; k++) {
      Edges.due("told " + k, x.told(k), k <= 3 ? 1 : 0);
    }
  }

  private static void faultsLeave() {
    Edges.sentence("-10 less the FAULT (no ERROR; the one ahead stays; THE TAPE is empty, too).");
    for (int use = 0; use < 2; use++) {
      SoldYear x = Edges.rich();
      SoldYear spared = Edges.rich();
      x.text(1);
      spared.text(1);
      Checks.feed(x, "m+m+");
      Edges.due("ends too early", x.text(use), -14);
      Edges.due("the tape", x.count(4), 0);
      Checks.feed(x, "m+)");
      Edges.due("a fault", x.text(use), -12);
      Edges.due("the tape", x.count(4), 0);
      Edges.same("faults in use " + use, x, spared);
    }
  }

  private static void longestTexts() {
    Edges.sentence("how many there are, if it ends too early");
    SoldYear x = new SoldYear();
    x.thing(61, 0, 0);
    Edges.due("59 bytes", Checks.text(x, 0, "m+".repeat(29) + "m"), 1);
    Edges.due("thirty m", x.thingIs(0, 4), 30);
    Edges.due("60 bytes", Checks.text(x, 0, "m+".repeat(29) + "19"), 1);
    Edges.due("as many and 19", x.thingIs(0, 4), 29 + 19);
    Edges.due("60 bytes, too early", Checks.text(x, 0, "m+".repeat(30)), -70);
    Edges.due("60 bytes, each of them a step", Checks.text(x, 0, "!m" + "+m".repeat(29)), 1);
    Edges.due("29 of m", x.thingIs(0, 4), 29);
    Edges.due("60 bytes, the last one a !'s", Checks.text(x, 0, "m+".repeat(29) + "!m"), 1);
    Edges.due("29 of m again", x.thingIs(0, 4), 29);
    Edges.due("59 bytes, too early", Checks.text(x, 0, "10" + "+m".repeat(28) + "+"), -69);
    Edges.due("the last one is a fault", Checks.text(x, 0, "m+".repeat(29) + "m)"), -69);
    Edges.due("60 bytes, an open one", Checks.text(x, 0, "(1" + "+m".repeat(29)), -70);
    Edges.due("60 bytes, closed", Checks.text(x, 0, "(1" + "+m".repeat(27) + "+11)"), 1);
    Edges.due("1, as many, and 11", x.thingIs(0, 4), 1 + 27 + 11);
    shorterOnes();
    Edges.due("sixty of !", Checks.text(x, 0, "!".repeat(60)), -15);
    Edges.due("sixty of (", Checks.text(x, 0, "(".repeat(60)), -15);
    Edges.due("sixty digits", Checks.text(x, 0, "1".repeat(60)), -14);
    Edges.due("the one ahead stays", x.thingIs(0, 4), 39);
  }

  /** Nothing is left of the longer TEXT ahead, whatever stood there. */
  private static void shorterOnes() {
    for (char sign : "|&<=>+-*/%".toCharArray()) {
      for (int use = 0; use < 2; use++) {
        SoldYear x = new SoldYear();
        x.thing(65, 0, 0);
        Edges.due("the longer one", Checks.text(x, use, "!" + "m" + sign + "!7"), 1);
        Edges.due("a number", Checks.text(x, use, "8"), 1);
        Edges.due("8 alone", x.thingIs(0, 4 + use), 8);
        Edges.due("another longer one", Checks.text(x, use, "m" + sign + "7" + sign + "!m"),
            "<=>".indexOf(sign) < 0 ? 1 : -13);
        Edges.due("a name", Checks.text(x, use, "m"), 1);
        Edges.due("m alone", x.thingIs(0, 4 + use), 5);
        Edges.due("two", Checks.text(x, use, "9-m"), 1);
        Edges.due("9 less m", x.thingIs(0, 4 + use), 4);
      }
    }
  }

  private static int fault(int use, String text) {
    int answer = Checks.text(new SoldYear(), use, text);
    return answer == 1 ? -1 : -10 - answer;
  }

  private static void faults(int use, String text, int due) {
    Edges.due("fault in " + text, fault(use, text), due);
  }

  private static void digits() {
    Edges.sentence("a NUMBER of 1 to 4 digits");
    faults(0, "", 0);
    faults(0, "1", -1);
    faults(0, "12", -1);
    faults(0, "123", -1);
    faults(0, "1234", -1);
    faults(0, "12345", 4);
    faults(0, "00000", 4);
    faults(0, "0000", -1);
    faults(0, "b+", 2);
    faults(0, "b+1", -1);
    faults(0, "b+1234", -1);
    faults(0, "b+12345", 6);
    faults(0, "1234+1234", -1);
    faults(0, "1234+12345", 9);
    faults(0, "!12345", 5);
    faults(0, "(12345", 5);
    faults(0, "(1234)5", 6);
    faults(0, "/", 0);
    faults(0, ":", 0);
    faults(0, "1:", 1);
    faults(0, "9", -1);
    faults(0, "-1", 0);
    faults(0, "+1", 0);
    SoldYear x = new SoldYear();
    x.thing(7, 0, 0);
    String[] texts = {"0", "9", "10", "99", "100", "999", "1000", "9999", "0000", "0009", "0090"};
    int[] due = {0, 9, 10, 99, 100, 999, 1000, 9999, 0, 9, 90};
    for (int i = 0; i < texts.length; i++) {
      Checks.text(x, 1, texts[i]);
      Edges.due("number " + texts[i], x.thingIs(0, 5), due[i]);
    }
  }

  private static void namesOfUses() {
    Edges.sentence("0 AGES (of a TOLD one): names b, t (as above), m m");
    for (char c = 'a' - 1; c <= 'z' + 1; c++) {
      faults(0, "" + c, "btm".indexOf(c) < 0 ? 0 : -1);
      faults(0, "1+" + c, "btm".indexOf(c) < 0 ? 2 : -1);
      faults(0, "b" + c, 1);
    }
    Edges.sentence("1 WORTH of a THING: names a AGE, k KIND, m m");
    for (char c = 'a' - 1; c <= 'z' + 1; c++) {
      faults(1, "" + c, "akm".indexOf(c) < 0 ? 0 : -1);
      faults(1, "1+" + c, "akm".indexOf(c) < 0 ? 2 : -1);
      faults(1, "a" + c, 1);
    }
    for (char c : new char[] {'A', 'B', 'K', 'M', 'T'}) {
      faults(0, "" + c, 0);
      faults(1, "" + c, 0);
    }
    SoldYear x = new SoldYear();
    x.sale(5, 0, 1);
    x.thing(67, 1, 1000);
    Checks.text(x, 0, "b*100+t*10+m");
    Edges.due("a day less than three years", x.age(0, 0, 1000 + 3 * 365 - 1), 327);
    Edges.due("three years, in the seller's", x.age(0, 0, 1000 + 3 * 365), 437);
    Edges.due("three years, in the buyer's", x.age(0, 1, 1000 + 3 * 365), 337);
    Checks.text(x, 1, "a*100+k*10+m");
    x.pass(1000 + 365);
    Edges.due("a, k, m", x.thingIs(0, 5), 9999);
    Checks.text(x, 1, "a/100*100+k*10+m");
    Edges.due("a, k, m", x.thingIs(0, 5), 167);
  }

  /** Each sign needs a part ahead of it and one behind it. */
  private static void chains() {
    Edges.sentence("T: A { | A }. A: B { & B }. B: S, or S < S, S = S, S > S. S: P { + P, - P }. P: Q { * Q, / Q, % Q }.");
    for (char c : "|&+-*/%".toCharArray()) {
      faults(0, "" + c, 0);
      faults(0, c + "b", 0);
      faults(0, "b" + c, 2);
      faults(0, "b" + c + c, 2);
      faults(0, "b" + c + "t", -1);
      faults(0, "b" + c + "t" + c, 4);
      faults(0, "b" + c + "t" + c + "m", -1);
      faults(0, "b" + c + ")", 2);
      faults(0, "(b" + c + "t", 4);
      faults(0, "(b" + c + "t)", -1);
    }
    for (char c : "<=>".toCharArray()) {
      faults(0, "" + c, 0);
      faults(0, "b" + c, 2);
      faults(0, "b" + c + c, 2);
      faults(0, "b" + c + "t", -1);
    }
    String[] signs = {"|", "&", "<", "+", "*"};
    for (int weak = 0; weak < 5; weak++) {
      for (int strong = 0; strong < 5; strong++) {
        boolean twice = weak == 2 && strong == 2;
        faults(0, "b" + signs[weak] + "t" + signs[strong] + "m", twice ? 3 : -1);
      }
    }
  }

  private static void comparisons() {
    Edges.sentence("B: S, or S < S, S = S, S > S.");
    for (char one : "<=>".toCharArray()) {
      for (char other : "<=>".toCharArray()) {
        faults(0, "b" + one + "t" + other, 3);
        faults(0, "b+1" + one + "t*2" + other + "1", 7);
        faults(0, "b" + one + "t&b" + other + "t", -1);
        faults(0, "b" + one + "t|b" + other + "t", -1);
        faults(0, "b" + one + "(t" + other + "m)", -1);
        faults(0, "(b" + one + "t)" + other + "m", -1);
        faults(0, "!(b" + one + "t)" + other + "m", -1);
        faults(0, "(b" + one + "t" + other + "m)", 4);
        faults(0, "b" + one + "(t" + other + "m" + one, 6);
        faults(0, "b" + one + "(t" + other + "m)" + one, 7);
      }
      faults(0, "b" + one + "t&b&t" + one + "m" + one, 9);
    }
  }

  private static void brackets() {
    Edges.sentence("Q: a NUMBER of 1 to 4 digits, a NAME, ! Q, ( T ).");
    faults(0, "(", 1);
    faults(0, ")", 0);
    faults(0, "()", 1);
    faults(0, "(b", 2);
    faults(0, "(b)", -1);
    faults(0, "(b))", 3);
    faults(0, "b)", 1);
    faults(0, "(b)(", 3);
    faults(0, "(b)b", 3);
    faults(0, "(b)1", 3);
    faults(0, "(b)!", 3);
    faults(0, "b(", 1);
    faults(0, "b!", 1);
    faults(0, "1!", 1);
    faults(0, "1(", 1);
    faults(0, "!", 1);
    faults(0, "!)", 1);
    faults(0, "!b", -1);
    faults(0, "!1", -1);
    faults(0, "!+", 1);
    faults(0, "b!=t", 1);
    faults(0, "((b)", 4);
    faults(0, "((b))", -1);
    faults(0, "((b)))", 5);
  }

  private static void openAtOnce() {
    Edges.sentence("At most 5 of ! and ( are open at once.");
    for (int code = 0; code < 64; code++) {
      StringBuilder text = new StringBuilder();
      StringBuilder closing = new StringBuilder();
      for (int i = 0; i < 6; i++) {
        boolean bracket = (code >> i & 1) != 0;
        if (i == 4 || i == 5) {
          faults(0, text + "b" + closing, -1);
          faults(0, text.toString(), i);
        }
        text.append(bracket ? '(' : '!');
        closing.append(bracket ? ")" : "");
      }
      faults(0, text + "b" + closing, 5);
      faults(0, text.toString(), 5);
      faults(0, "b|1<" + text + "b" + closing, 9);
    }
  }

  private static void openOnesClosed() {
    Edges.sentence("At most 5 of ! and ( are open at once.");
    faults(0, "((((!b+(t)))))", -1);
    faults(0, "((((!b+!t))))", -1);
    faults(0, "((((!b+!!t))))", 8);
    faults(0, "((((!b+((t)))))", 8);
    faults(0, "((((!(b)+!t))))", 5);
    faults(0, "(((!(b)+!!t)))", -1);
    faults(0, "(((!(b)+!!!t)))", 10);
    faults(0, "(((((b)+(t)))))", -1);
    faults(0, "(((((b)+((t))))))", 9);
    faults(0, "!!!!!b+!!!!!t", -1);
    faults(0, "!!!!!b+!!!!!!t", 12);
    faults(0, "!!!!!b*(((((t)))))", -1);
    faults(0, "!!!!!1234", -1);
    faults(0, "!!!!!1234=!!!!!(", 15);
    faults(0, "(!(!(b)))", -1);
    faults(0, "(!(!(!b)))", 5);
    faults(0, "(!(!(b)+!b)+!(!b))", -1);
    faults(0, "(!(!(b)+!!b)+!(!b))", -1);
    faults(0, "(!(!(b)+!!!b)+!(!b))", 10);
  }

  private static void otherBytes() {
    Edges.sentence("No blanks.");
    String signs = "()!|&<=>+-*/%";
    for (int c = 0; c < 256; c++) {
      boolean goesOn = signs.indexOf(c) >= 0 || c >= '0' && c <= '9' || "btm".indexOf(c) >= 0;
      boolean begins = "(!btm".indexOf(c) >= 0 || c >= '0' && c <= '9';
      boolean joins = "|&<=>+-*/%".indexOf(c) >= 0;
      faults(0, "" + (char) c, !begins ? 0 : c == '(' || c == '!' ? 1 : -1);
      faults(0, "b" + (char) c, joins ? 2 : 1);
      faults(0, "b+" + (char) c, !begins ? 2 : c == '(' || c == '!' ? 3 : -1);
      faults(0, "b" + (char) c + "t", joins ? -1 : 1);
      if (!goesOn) {
        faults(0, "(b" + (char) c + ")", 2);
        faults(0, (char) c + "b", 0);
      }
    }
    faults(0, "b +t", 1);
    faults(0, "b+ t", 2);
    faults(0, "1 2", 1);
    faults(0, "! b", 1);
  }

  /** Each beginning of a text ends too early, or is a text. */
  private static void everyPrefix() {
    Edges.sentence("FAULT: the place of the first byte with which no TEXT goes on; how many there are, if it ends too early.");
    String text = "!(b+12*t<m%3)&1234/b=!t|(m-(t>b))";
    String whole = " 13 15 16 17 18 20 23 33 ";
    for (int n = 0; n <= text.length(); n++) {
      Edges.due("the first " + n, fault(0, text.substring(0, n)), whole.contains(" " + n + " ") ? -1 : n);
      Edges.due("the first " + n + " and a blank", fault(0, text.substring(0, n) + " "), n);
    }
  }

  /** Of a deed with a = 0, k = 0 and m = 7. */
  private static int worth(String text) {
    SoldYear x = new SoldYear();
    x.thing(7, 0, 0);
    Edges.due("text " + text, Checks.text(x, 1, text), 1);
    return x.thingIs(0, 5);
  }

  private static void wraps() {
    Edges.sentence("Ints that wrap");
    String half = "1024*1024*1024";
    Edges.due("2^30 by 2, less 1, is above 0", worth(half + "-1+" + half + ">0"), 1);
    Edges.due("2^31 is below 0", worth(half + "*2<0"), 1);
    Edges.due("2^31 less 1 is above 0", worth(half + "*2-1>0"), 1);
    Edges.due("2^31 is its own opposite", worth("0-" + half + "*2=" + half + "*2"), 1);
    Edges.due("2^32 is 0", worth(half + "*4"), 0);
    Edges.due("2^32 and 7", worth(half + "*4+7"), 7);
    Edges.due("greatest and 1 is least", worth(half + "*2-1+1=" + half + "*2"), 1);
    Edges.due("least less 1 is greatest", worth(half + "*2-1=0-1-" + half + "*2"), 1);
    Edges.due("9999 four times", worth("9999*9999*9999*9999/(1000*1000)"), 9999 * 9999 * 9999 * 9999 / 1000000);
    Edges.due("46340 by itself is above 0", worth("(9999*4+6344)*(9999*4+6344)>0"), 1);
    Edges.due("46341 by itself is below 0", worth("(9999*4+6345)*(9999*4+6345)<0"), 1);
  }

  private static void quotients() {
    Edges.sentence("/ cut, % the rest that it leaves, both by 0 are 0");
    int[] ones = {-9, -8, -7, -1, 0, 1, 7, 8, 9};
    int[] others = {-8, -2, -1, 0, 1, 2, 8};
    for (int one : ones) {
      for (int other : others) {
        String a = one < 0 ? "(0-" + -one + ")" : "" + one;
        String b = other < 0 ? "(0-" + -other + ")" : "" + other;
        Edges.due(one + " / " + other, worth(a + "/" + b), other == 0 ? 0 : one / other);
        Edges.due(one + " % " + other, worth(a + "%" + b), other == 0 ? 0 : one % other);
      }
    }
    String least = "1024*1024*1024*2";
    Edges.due("least / -1 is least", worth(least + "/(0-1)=" + least), 1);
    Edges.due("least % -1", worth(least + "%(0-1)"), 0);
    Edges.due("least / 1 is least", worth(least + "/1=" + least), 1);
    Edges.due("least / 0", worth(least + "/0"), 0);
    Edges.due("0 / 0", worth("0/0"), 0);
    Edges.due("0 % 0", worth("0%0"), 0);
    Edges.due("by 0 in the midst", worth("5+7/0*3"), 5);
    Edges.due("by 0, rest, in the midst", worth("5+7%0+1"), 6);
    Edges.due("from the left", worth("7/2*2"), 6);
    Edges.due("from the left", worth("7*2/2%4"), 3);
    Edges.due("from the left", worth("9-3-2+1"), 5);
  }

  private static void truths() {
    Edges.sentence("| & < = > ! are 1 or 0, what is not 0 being true; all is worked out.");
    String[] texts = {"(0-1)", "0", "1", "2"};
    int[] values = {-1, 0, 1, 2};
    for (int i = 0; i < 4; i++) {
      Edges.due("! " + values[i], worth("!" + texts[i]), values[i] == 0 ? 1 : 0);
      Edges.due("!! " + values[i], worth("!!" + texts[i]), values[i] == 0 ? 0 : 1);
      for (int j = 0; j < 4; j++) {
        String pair = values[i] + ", " + values[j];
        Edges.due("| " + pair, worth(texts[i] + "|" + texts[j]), values[i] != 0 || values[j] != 0 ? 1 : 0);
        Edges.due("& " + pair, worth(texts[i] + "&" + texts[j]), values[i] != 0 && values[j] != 0 ? 1 : 0);
        Edges.due("< " + pair, worth(texts[i] + "<" + texts[j]), values[i] < values[j] ? 1 : 0);
        Edges.due("= " + pair, worth(texts[i] + "=" + texts[j]), values[i] == values[j] ? 1 : 0);
        Edges.due("> " + pair, worth(texts[i] + ">" + texts[j]), values[i] > values[j] ? 1 : 0);
      }
    }
    Edges.due("& ahead of |", worth("1|1&0"), 1);
    Edges.due("< ahead of &", worth("2&1<2"), 1);
    Edges.due("+ ahead of <", worth("1+1<2+1"), 1);
    Edges.due("! ahead of *", worth("!0*5"), 5);
    Edges.due("what is behind a true one is worked out", worth("1|5/0"), 1);
  }

  private static void heldAges() {
    Edges.sentence("held within 0 .. 999");
    SoldYear x = new SoldYear();
    x.thing(67, 0, 5);
    String[] texts = {"0-9999", "0-2", "0-1", "0", "1", "998", "999", "1000", "1001", "9999", "1024*1024*1024*2",
        "1024*1024*1024*2-1"};
    int[] due = {0, 0, 0, 0, 1, 998, 999, 999, 999, 999, 0, 999};
    for (int i = 0; i < texts.length; i++) {
      Edges.due("text " + texts[i], Checks.text(x, 0, texts[i]), 1);
      Edges.due("age by " + texts[i], x.age(0, 3, 5), due[i]);
      Edges.due("ahead of it, by " + texts[i], x.age(0, 3, 4), 0);
      Edges.due("comes, by " + texts[i], x.comes(0, 3, 99), due[i] >= 99 ? 5 : Checks.NONE);
    }
    for (int kind = 0; kind < 6; kind++) {
      x.set(0, 0, kind);
      Edges.due("of a told one alone, kind " + kind, x.age(0, 3, 5), kind == 3 ? 7 : 0);
    }
  }

  private static void heldWorths() {
    Edges.sentence("held within -9999 .. 9999");
    SoldYear x = new SoldYear();
    x.thing(0, 0, 0);
    String[] texts = {"9998", "9999", "9999+1", "9999+2", "0-9998", "0-9999", "0-9999-1", "0-9999-2",
        "1024*1024*1024*2", "1024*1024*1024*2-1", "0"};
    int[] due = {9998, 9999, 9999, 9999, -9998, -9999, -9999, -9999, -9999, 9999, 0};
    for (int i = 0; i < texts.length; i++) {
      Edges.due("text " + texts[i], Checks.text(x, 1, texts[i]), 1);
      Edges.due("worth by " + texts[i], x.thingIs(0, 5), due[i]);
      Edges.due("all by " + texts[i], x.count(8), due[i]);
    }
    Checks.text(x, 1, "9999+k");
    for (int i = 1; i < 10; i++) {
      x.thing(60, 0, 0);
    }
    Edges.due("each is held, not all", x.count(8), 99990);
    Checks.text(x, 0, "9999");
    Checks.text(x, 1, "a*10+m");
    Edges.due("the greatest age's", x.thingIs(1, 5), 9990);
    x.set(1, 1, 9);
    Edges.due("the greatest without a text, too", x.thingIs(1, 5), 9999);
    x.untell(1);
    Edges.due("the greatest without a text", x.thingIs(1, 5), 9999);
  }

  private static void untold() {
    Edges.sentence("There is no TEXT of a USE any more: 1 if there was, else 0. BEYOND.");
    Edges.within("untell", 0, 1, SoldYear::untell, v -> 1);
    SoldYear x = Edges.rich();
    Edges.due("there was", x.untell(0), 1);
    Edges.due("there isn't any more", x.untell(0), 0);
    Edges.due("the other one was", x.untell(1), 1);
    Edges.due("it isn't any more", x.untell(1), 0);
    Edges.due("the tape stays", x.count(4), 5);
    Edges.due("a text of it", x.text(1), 1);
    Edges.due("the other one isn't", x.untell(0), 0);
    Edges.due("there was", x.untell(1), 1);
    Edges.due("after a fault there isn't", Checks.text(x, 1, "a+") + x.untell(1), -12);
    Edges.due("no ERRORS", x.told(1), 1);
    x.restore();
    Edges.due("an image's", x.untell(0) + x.untell(1), 2);
  }
}
