/** Promises 20 to 27: papers, the days that they may be, in how many ways they stand in order, clerks and draws. */
public final class PapersTest {
  public static void main(String[] args) {
    making();
    maybes();
    manyRows();
    noRows();
    spans();
    clerks();
    heldNames();
    Checks.end("PapersTest");
  }

  private static void making() {
    SoldYear x = new SoldYear();
    Checks.due("name -1", x.paper(-1, 0), Checks.BEYOND);
    Checks.due("name 207", x.paper(207, 0), Checks.BEYOND);
    Checks.due("of -1", x.paper(0, -1), Checks.BEYOND);
    Checks.due("of 365", x.paper(0, 365), Checks.BEYOND);
    Checks.due("burn none", x.burn(), Checks.STATE);
    for (int i = 0; i < 8; i++) {
      Checks.due("paper " + i, x.paper(i == 7 ? 206 : i, i == 7 ? 364 : i), i);
    }
    Checks.due("a ninth", x.paper(0, 0), Checks.FULL);
    Checks.due("BEYOND ahead of FULL", x.paper(207, 0), Checks.BEYOND);
    Checks.due("eight", x.count(2), 8);
    Checks.due("name", x.paperIs(7, 0), 206);
    Checks.due("of", x.paperIs(7, 1), 364);
    Checks.due("no day", x.paperIs(7, 2), 0);
    Checks.due("one day", x.paperIs(3, 2), 1);
    Checks.due("what 3", x.paperIs(0, 3), Checks.BEYOND);
    Checks.due("what -1", x.paperIs(0, -1), Checks.BEYOND);
    Checks.due("paper 8", x.paperIs(8, 0), Checks.BEYOND);
    Checks.due("paper -1", x.paperIs(-1, 0), Checks.BEYOND);
    Checks.due("burn", x.burn(), 7);
    Checks.due("it went", x.paperIs(7, 0), Checks.BEYOND);
    Checks.due("the others stay", x.paperIs(6, 0), 6);
    Checks.due("another one", x.paper(9, 8), 7);
  }

  private static void maybes() {
    SoldYear x = new SoldYear();
    x.paper(41, 7);
    Checks.due("one", x.paperIs(0, 2), 1);
    x.sale(41, 0, 1);
    x.sale(30, 2, 3);
    // county 0: nowhere; 1: years 41, 42; 2: 40; 3: 42
    int[] due = {40 * 365 + 7, 41 * 365 + 7, 42 * 365 + 7};
    Checks.due("each once", x.paperIs(0, 2), 3);
    for (int i = 0; i < 3; i++) {
      Checks.due("in order " + i, x.may(0, i), due[i]);
    }
    Checks.due("not so many", x.may(0, 3), Checks.NONE);
    Checks.due("i far above", x.may(0, Integer.MAX_VALUE), Checks.NONE);
    Checks.due("i -1", x.may(0, -1), Checks.BEYOND);
    Checks.due("no such paper", x.may(1, 0), Checks.BEYOND);
    Checks.due("paper -1", x.may(-1, 0), Checks.BEYOND);
    SoldYear y = new SoldYear();
    y.paper(200, 364);
    Checks.due("none", y.may(0, 0), Checks.NONE);
    y.sale(150, 1, 2);
    Checks.due("the last day", y.may(0, 0), 72999);
    Checks.due("no other", y.may(0, 1), Checks.NONE);
    y.paper(0, 0);
    Checks.due("the first day", y.may(1, 0), 0);
  }

  private static SoldYear soldTwice() {
    SoldYear x = new SoldYear();
    x.sale(10, 0, 1);
    x.sale(10, 2, 3);
    x.sale(11, 2, 3);
    return x;
  }

  private static void manyRows() {
    // county 0: 10 never, 11 in 10, 12 in 11; county 1: 10 in 10, 11; 11 in 12; 12 in 13
    // county 2: 12 in 10; county 3: 10 in 10, 11; 11 in 12, 13; 12 in 14
    SoldYear x = soldTwice();
    Checks.due("none", x.rows(), 1);
    x.paper(12, 100);
    Checks.due("12: 10, 11, 13, 14", x.rows(), 4);
    x.paper(12, 100);
    Checks.due("two of four in order", x.rows(), 6);
    x.paper(12, 101);
    // a third one, a day later: (10,11): 3 of 11, 13, 14; (10,13): 2; (10,14): 1; (11,13): 2; (11,14): 1; (13,14): 1
    Checks.due("three", x.rows(), 3 + 2 + 1 + 2 + 1 + 1);
    x.paper(12, 101);
    Checks.due("four", x.rows(), rowsOfFour());
    SoldYear y = soldTwice();
    for (int i = 0; i < 4; i++) {
      y.paper(11, 0);
    }
    Checks.due("11: 10, 12, 13: no four", y.rows(), 0);
    y.burn();
    Checks.due("three in one way", y.rows(), 1);
  }

  /** Tries all: years 10, 11, 13, 14 for each of four papers, the latter two a day later in the year. */
  private static long rowsOfFour() {
    int[] years = {10, 11, 13, 14};
    int[] ofs = {100, 100, 101, 101};
    long ways = 0;
    for (int code = 0; code < 256; code++) {
      int before = -1;
      boolean order = true;
      for (int i = 0; i < 4; i++) {
        int day = years[code >> (2 * i) & 3] * 365 + ofs[i];
        order &= day > before;
        before = day;
      }
      ways += order ? 1 : 0;
    }
    return ways;
  }

  private static void noRows() {
    SoldYear x = new SoldYear();
    x.paper(20, 5);
    x.paper(20, 5);
    Checks.due("not later", x.rows(), 0);
    Checks.due("no span", x.span(0, 0), Checks.NONE);
    Checks.due("no span", x.span(1, 1), Checks.NONE);
    x.burn();
    x.paper(20, 6);
    Checks.due("later by a day", x.rows(), 1);
    x.paper(206, 6);
    Checks.due("a paper of no day", x.rows(), 0);
    Checks.due("no span of the first either", x.span(0, 1), Checks.NONE);
    Checks.due("BEYOND ahead of NONE", x.span(0, 2), Checks.BEYOND);
    Checks.due("told NONE", x.told(2), 3);
  }

  private static void spans() {
    SoldYear x = soldTwice();
    x.paper(12, 100);
    x.paper(12, 100);
    x.paper(11, 200);
    // the first two in 10, 11, 13, 14; the third in 10, 12, 13
    Checks.due("first, least", x.span(0, 0), 10 * 365 + 100);
    Checks.due("first, greatest", x.span(0, 1), 11 * 365 + 100);
    Checks.due("second, least", x.span(1, 0), 11 * 365 + 100);
    Checks.due("second, greatest", x.span(1, 1), 13 * 365 + 100);
    Checks.due("third, least", x.span(2, 0), 12 * 365 + 200);
    Checks.due("third, greatest", x.span(2, 1), 13 * 365 + 200);
    Checks.due("greatest 2", x.span(0, 2), Checks.BEYOND);
    Checks.due("greatest -1", x.span(0, -1), Checks.BEYOND);
    Checks.due("no such paper", x.span(3, 0), Checks.BEYOND);
    Checks.due("paper -1", x.span(-1, 0), Checks.BEYOND);
    SoldYear y = new SoldYear();
    y.paper(0, 0);
    Checks.due("day 0, least", y.span(0, 0), 0);
    Checks.due("day 0, greatest", y.span(0, 1), 0);
    Checks.due("without papers", new SoldYear().span(0, 0), Checks.BEYOND);
  }

  private static void clerks() {
    SoldYear x = new SoldYear();
    Checks.due("no papers, no draws", x.clerk(), 0);
    Checks.due("z", x.count(7), 1);
    for (int round = 0; round < 20; round++) {
      x.seed(round * 977 - 5000);
      while (x.count(2) > 0) {
        x.burn();
      }
      int z = round * 977 - 5000;
      int[] names = new int[8];
      int others = 0;
      for (int i = 0; i < 8; i++) {
        x.paper(50 + i, i);
        z = z * 1103515245 + 12345;
        int rest = (z >>> 8) % 8;
        names[i] = 50 + i + (rest == 0 ? 1 : rest == 1 ? -1 : 0);
        others += rest < 2 ? 1 : 0;
      }
      Checks.due("others", x.clerk(), others);
      for (int i = 0; i < 8; i++) {
        Checks.due("name " + i, x.paperIs(i, 0), names[i]);
        Checks.due("of " + i, x.paperIs(i, 1), i);
      }
      Checks.due("z", x.count(7), z);
      Checks.due("z was", x.seed(-1000000001), z);
      Checks.due("any number", x.seed(7), -1000000001);
    }
    Checks.due("none is an error", x.told(1), 0);
  }

  private static void heldNames() {
    boolean above = false;
    boolean below = false;
    for (int seed = 0; seed < 60; seed++) {
      int rest = (seed * 1103515245 + 12345 >>> 8) % 8;
      SoldYear x = new SoldYear();
      x.paper(rest == 0 ? 206 : 0, 3);
      x.seed(seed);
      Checks.due("held", x.clerk(), 0);
      Checks.due("stays", x.paperIs(0, 0), rest == 0 ? 206 : 0);
      above |= rest == 0;
      below |= rest == 1;
    }
    Checks.due("both were drawn", above && below ? 1 : 0, 1);
  }
}
