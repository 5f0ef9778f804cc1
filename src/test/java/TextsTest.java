/** Promises 17 to 19: the tape, texts that are read from it, what they make of ages and worths. */
public final class TextsTest {
  public static void main(String[] args) {
    feeding();
    telling();
    faults();
    openOnes();
    values();
    uses();
    Checks.end("TextsTest");
  }

  private static void feeding() {
    SoldYear x = new SoldYear();
    Checks.due("n 0", x.feed(0, 0), Checks.BEYOND);
    Checks.due("n 9", x.feed(0, 9), Checks.BEYOND);
    Checks.due("n -1", x.feed(0, -1), Checks.BEYOND);
    Checks.due("8 bytes", x.feed(0x2b31302b31302b61L, 8), 8);
    Checks.due("the lowest first: a+01+01+ ends too early", x.text(1), -10 - 8);
    for (int i = 1; i <= 7; i++) {
      Checks.due("8 bytes", x.feed(-1L, 8), 8 * i);
    }
    Checks.due("5 more are too many", x.feed(-1L, 5), Checks.FULL);
    Checks.due("BEYOND ahead of FULL", x.feed(-1L, 9), Checks.BEYOND);
    Checks.due("none of them came", x.count(4), 56);
    Checks.due("4 more are not", x.feed(-1L, 4), 60);
    Checks.due("full", x.feed(0, 1), Checks.FULL);
    Checks.due("no bytes of a text", x.text(0), -10);
    Checks.due("empty", x.count(4), 0);
    Checks.due("a word's sign", x.feed(0xFFFFFFFFFFFFFF61L, 1), 1);
    Checks.due("is not of the lowest byte", x.text(1), 1);
  }

  private static void telling() {
    SoldYear x = new SoldYear();
    x.thing(63, 0, 0);
    Checks.feed(x, "44");
    Checks.due("use 2", x.text(2), Checks.BEYOND);
    Checks.due("use -1", x.text(-1), Checks.BEYOND);
    Checks.due("the tape stays", x.count(4), 2);
    Checks.due("told", x.text(0), 1);
    Checks.due("the tape is empty", x.count(4), 0);
    Checks.due("age", x.thingIs(0, 4), 44);
    Checks.due("a fault", Checks.text(x, 0, "5+"), -12);
    Checks.due("the tape is empty, too", x.count(4), 0);
    Checks.due("the one ahead stays", x.thingIs(0, 4), 44);
    Checks.due("in place of it", Checks.text(x, 0, "m"), 1);
    Checks.due("age", x.thingIs(0, 4), 3);
    Checks.due("use 2", x.untell(2), Checks.BEYOND);
    Checks.due("use -1", x.untell(-1), Checks.BEYOND);
    Checks.due("no worth", x.untell(1), 0);
    Checks.due("untold", x.untell(0), 1);
    Checks.due("untold already", x.untell(0), 0);
    Checks.due("as without one", x.thingIs(0, 4), 0);
    Checks.due("faults are no errors", x.told(1), 4);
  }

  private static void faults() {
    SoldYear x = new SoldYear();
    String[] texts = {"", "b+", "b++", "b b", "(b", "(b))", "b)", ")", "b<t<m", "(b<t)<m", "b<t&t<m", "12345", "1234",
        "1b", "b1", "bb", "a", "k", "B", "b|", "b&|b", "!", "!b", "b!", "()", "(b+)", "b=>t", "-1", "b*/t", "b%t%m/2*3",
        "b=t|m<1&2>3", "(1234", "(12345)", "b<t+", "b<t>", "b\u00e9", "\u0080", "!(b", "!(b)", "b<(t<m)", "b|t&m|1",
        "9999+0000", "b ", " b", "b=t=", "b\u0000"};
    int[] due = {0, 2, 2, 1, 2, 3, 1, 0, 3, -1, -1, 4, -1,
        1, 1, 1, 0, 0, 0, 2, 2, 1, -1, 1, 1, 3, 2, 0, 2, -1,
        -1, 5, 5, 4, 3, 1, 0, 3, -1, -1, -1,
        -1, 1, 0, 3, 1};
    for (int i = 0; i < texts.length; i++) {
      Checks.due("text " + texts[i], Checks.text(x, 0, texts[i]), due[i] < 0 ? 1 : -10 - due[i]);
    }
    Checks.due("names of worth", Checks.text(x, 1, "a+k+m"), 1);
    Checks.due("b is none", Checks.text(x, 1, "a+b"), -12);
    Checks.due("t is none", Checks.text(x, 1, "t"), -10);
    Checks.due("sixty bytes", Checks.text(x, 1, "a+".repeat(30)), -70);
    Checks.due("fifty-nine", Checks.text(x, 1, "a+".repeat(29) + "a"), 1);
  }

  private static void openOnes() {
    SoldYear x = new SoldYear();
    Checks.due("five", Checks.text(x, 0, "!!!!!b"), 1);
    Checks.due("six", Checks.text(x, 0, "!!!!!!b"), -15);
    Checks.due("five", Checks.text(x, 0, "(((((b)))))"), 1);
    Checks.due("six", Checks.text(x, 0, "((((((b))))))"), -15);
    Checks.due("five of both", Checks.text(x, 0, "!(!(!b+1)+!(t))"), 1);
    Checks.due("five of both again", Checks.text(x, 0, "!(!(!b+!t))"), 1);
    Checks.due("six of both", Checks.text(x, 0, "!(!(!b+!(t)))"), -10 - 8);
    Checks.due("six of both", Checks.text(x, 0, "!(!(!b+!!t))"), -10 - 8);
    Checks.due("six deep", Checks.text(x, 0, "!(!(!(b)))"), -10 - 5);
    Checks.due("closed ones don't count", Checks.text(x, 0, "(b)+(b)+!b+!b+(b)+(b)+!(b)"), 1);
    Checks.due("a closed ! doesn't count", Checks.text(x, 0, "((((!b+(t)))))"), 1);
  }

  private static int worth(String text, int m) {
    SoldYear x = new SoldYear();
    x.thing(m, 0, 0);
    x.pass(365 * 5);
    Checks.due("text " + text, Checks.text(x, 1, text), 1);
    return x.thingIs(0, 5);
  }

  private static void values() {
    String[] texts = {"a", "k", "m", "0", "0123", "1+2*3", "(1+2)*3", "10-3-2", "100/7/2", "100/(0-7)", "0-100/7",
        "(0-100)%7", "100%(0-7)", "5/0", "5%0", "a/(a-5)", "1<2", "2<1", "2>1", "1>2", "2=2", "2=3", "!0", "!7", "!!7",
        "2&4", "1&1", "1&2", "2&1", "2<2", "2>2", "2&0", "0|4", "0|0", "1|0&0", "(1|0)&0", "1+1=2", "3&1<2", "!1+1", "!(1+1)", "2*3%4", "7-2<3+3",
        "9999*9999*9999*9999", "9999*9999", "0-9999*9999", "0-9999-1", "9999+1", "a*10+m", "!a=0", "a<m|a>m",
        "1024*1024*2048<0", "1024*1024*2048-1>0", "1024*1024*2048/(0-1)", "1024*1024*2048%(0-1)", "5-2+1", "8/2*3",
        "0=0"};
    int wrapped = 9999 * 9999 * 9999 * 9999;
    int[] due = {5, 0, 4, 0, 123, 7, 9, 5, 7, -14, -14,
        -2, 2, 0, 0, 0, 1, 0, 1, 0, 1, 0, 1, 0, 1,
        1, 1, 1, 1, 0, 0, 0, 1, 0, 1, 0, 1, 1, 1, 0, 2, 1,
        Math.max(-9999, Math.min(9999, wrapped)), 9999, -9999, -9999, 9999, 54, 1, 1,
        1, 1, -9999, 0, 4, 12, 1};
    for (int i = 0; i < texts.length; i++) {
      Checks.due("worth by " + texts[i], worth(texts[i], 4), due[i]);
    }
  }

  private static void uses() {
    SoldYear x = new SoldYear();
    x.sale(10, 0, 1);
    x.thing(64, 0, 5);
    x.thing(14, 0, 5);
    Checks.text(x, 0, "b*100+t*10+m");
    int day = 365 * 11 + 4;
    Checks.due("b, t, m, but 999 at most", x.age(0, 0, day), 999);
    Checks.text(x, 0, "b*20+t*10+m");
    Checks.due("b, t, m", x.age(0, 0, day), 11 * 20 + 10 * 10 + 4);
    Checks.due("b by that county", x.age(0, 1, day), 9 * 20 + 10 * 10 + 4);
    Checks.due("of a told one only", x.age(1, 0, day), 11);
    Checks.text(x, 0, "0-1");
    Checks.due("0 at least", x.age(0, 0, day), 0);
    Checks.text(x, 0, "9999");
    Checks.due("999 at most", x.age(0, 0, day), 999);
    x.pass(day);
    Checks.due("worth without a text", x.thingIs(0, 5), 9994);
    Checks.text(x, 1, "a*100+k*10+m");
    Checks.due("worth 9999 at most", x.thingIs(0, 5), 9999);
    Checks.due("worth of a birth", x.thingIs(1, 5), 1114);
    Checks.due("worth of all", x.count(8), 9999 + 1114);
  }
}
