/** The boundaries in promises 20 to 27 and in what the terms say of PAPERS, MAY, ROWS, SPAN, CLERKS and DRAWS. */
public final class PapersEdgesTest {
  private static final int YEAR = 365;

  public static void main(String[] args) {
    datesOfPapers();
    eightPapers();
    orderOfErrors();
    whatOfPapers();
    burnToNone();
    mayPlaces();
    mayOfTradedNames();
    mayAtBothEnds();
    mayOfMany();
    rowsOfFew();
    laterByADay();
    rowsOfMany();
    spanPlaces();
    spansOfOne();
    spansOfTwo();
    spansFarOn();
    spansWithoutRows();
    clerkRests();
    clerkHolds();
    clerkOfNone();
    draws();
    seeds();
    Checks.end("PapersEdgesTest");
  }

  private static void datesOfPapers() {
    Edges.sentence("have DATES each (a NAME 0 .. 206, a DAY of the YEAR), of a COUNTY that isn't known");
    Edges.within("paper's name", 0, 206, (x, v) -> x.paper(v, 0), v -> 3);
    Edges.within("paper's day", 0, 364, (x, v) -> x.paper(0, v), v -> 3);
    for (int name : new int[] {0, 1, 205, 206}) {
      for (int of : new int[] {0, 1, 363, 364}) {
        SoldYear x = new SoldYear();
        Edges.due("paper", x.paper(name, of), 0);
        Edges.due("name", x.paperIs(0, 0), name);
        Edges.due("day of the year", x.paperIs(0, 1), of);
        Edges.due("how many it may be", x.paperIs(0, 2), name < 200 ? 1 : 0);
      }
    }
  }

  private static long paperFive(SoldYear x) {
    for (int i = 0; i < 5; i++) {
      x.paper(60 + i, i);
    }
    return 0;
  }

  private static void eightPapers() {
    Edges.sentence("PAPERS 0, 1, .. (at most 8)");
    SoldYear x = new SoldYear();
    for (int i = 0; i < 8; i++) {
      Edges.due("there is no paper " + i, x.paperIs(i, 0), Checks.BEYOND);
      Edges.due("paper " + i, x.paper(10 + i, i), i);
      Edges.due("there it is " + i, x.paperIs(i, 0), 10 + i);
      Edges.due("how many", x.count(2), i + 1);
    }
    Edges.due("a ninth", x.paper(0, 0), Checks.FULL);
    Edges.due("there is none", x.paperIs(8, 0), Checks.BEYOND);
    Edges.due("all in order", x.rows(), 1);
    Edges.sentence("A PAPER: its number. BEYOND. FULL.");
    Edges.refused("a ninth", Checks.FULL, PapersEdgesTest::paperFive, y -> y.paper(206, 364));
    Edges.due("one burns", x.burn(), 7);
    Edges.due("the eighth anew", x.paper(30, 0), 7);
    Edges.due("its name", x.paperIs(7, 0), 30);
    Edges.due("a ninth", x.paper(31, 0), Checks.FULL);
  }

  private static void orderOfErrors() {
    Edges.sentence("Each act tells its ERRORS in the order in which they are asked");
    Edges.refused("BEYOND of the name ahead of FULL", Checks.BEYOND, PapersEdgesTest::paperFive, x -> x.paper(207, 0));
    Edges.refused("BEYOND of the day ahead of FULL", Checks.BEYOND, PapersEdgesTest::paperFive, x -> x.paper(0, 365));
    Edges.refused("may: BEYOND ahead of NONE", Checks.BEYOND, x -> x.may(3, 9));
    Edges.refused("may: BEYOND ahead of NONE", Checks.BEYOND, x -> x.paper(206, 0), x -> x.may(3, -1));
    Edges.refused("span: BEYOND ahead of NONE", Checks.BEYOND, x -> x.paper(206, 0), x -> x.span(3, 2));
    Edges.refused("span: BEYOND ahead of NONE", Checks.BEYOND, x -> x.paper(206, 0), x -> x.span(4, 0));
  }

  private static void whatOfPapers() {
    Edges.sentence("Of a PAPER: 0 the NAME, 1 the DAY of the YEAR, 2 how many DAYS it MAY be. BEYOND.");
    // county 0: sold 41; 1: bought 41, sold 50; 2: sold 44, bought 50; 3: bought 44. So 41 is YEAR 41 or 42
    int[] facts = {41, 100, 2};
    Edges.within("what", 0, 2, (x, v) -> x.paperIs(1, v), v -> facts[v]);
    int[] names = {40, 41, 42};
    Edges.within("paper", 0, 2, (x, v) -> x.paperIs(v, 0), v -> names[v]);
    Edges.refusedAnew("no paper", Checks.BEYOND, x -> 0, x -> x.paperIs(0, 0));
    Edges.refused("one that burnt", Checks.BEYOND, SoldYear::burn, x -> x.paperIs(2, 0));
  }

  private static void burnToNone() {
    Edges.sentence("The PAPER that came last goes: how many are left. STATE: there is none.");
    SoldYear x = new SoldYear();
    for (int i = 0; i < 8; i++) {
      x.paper(20 + i, i);
    }
    for (int left = 7; left >= 0; left--) {
      Edges.due("left", x.burn(), left);
      Edges.due("the last one is gone", x.paperIs(left, 0), Checks.BEYOND);
      if (left > 0) {
        Edges.due("the one ahead stays", x.paperIs(left - 1, 0), 19 + left);
      }
    }
    Edges.due("none", x.burn(), Checks.STATE);
    Edges.due("rows", x.rows(), 1);
    Edges.refused("none", Checks.STATE, y -> y.burn() + y.burn() + y.burn(), SoldYear::burn);
    Edges.refusedAnew("none yet", Checks.STATE, y -> 0, SoldYear::burn);
  }

  private static void mayPlaces() {
    Edges.sentence("MAY of a PAPER: the i-th DAY. BEYOND: no such PAPER, i below 0. NONE: there are not so many.");
    SoldYear x = Edges.rich();
    Edges.due("first", x.may(1, 0), 41 * YEAR + 100);
    Edges.due("second", x.may(1, 1), 42 * YEAR + 100);
    Edges.due("how many", x.paperIs(1, 2), 2);
    Edges.refused("a third", Checks.NONE, y -> y.may(1, 2));
    Edges.refused("a fourth", Checks.NONE, y -> y.may(1, 3));
    Edges.refused("far above", Checks.NONE, y -> y.may(1, Integer.MAX_VALUE));
    Edges.refused("i -1", Checks.BEYOND, y -> y.may(1, -1));
    Edges.refused("far below", Checks.BEYOND, y -> y.may(1, Integer.MIN_VALUE));
    int[] days = {40 * YEAR + 300, 41 * YEAR + 100, 41 * YEAR + 10};
    Edges.within("paper", 0, 2, (y, v) -> y.may(v, 0), v -> days[v]);
    Edges.refused("none at all", Checks.NONE, y -> y.paper(206, 0), y -> y.may(3, 0));
    Edges.refusedAnew("no paper", Checks.BEYOND, y -> 0, y -> y.may(0, 0));
  }

  private static void mays(SoldYear x, int name, int of, int... years) {
    while (x.count(2) > 0) {
      x.burn();
    }
    x.paper(name, of);
    Edges.due("how many of " + name, x.paperIs(0, 2), years.length);
    for (int i = 0; i < years.length; i++) {
      Edges.due("day " + i + " of " + name, x.may(0, i), years[i] * YEAR + of);
    }
    Edges.due("no more of " + name, x.may(0, years.length), Checks.NONE);
  }

  private static void mayOfTradedNames() {
    Edges.sentence("MAY of a PAPER: all DAYS whose DATE is that in some COUNTY, each once, in order.");
    for (int name : new int[] {1, 2, 149, 150}) {
      SoldYear x = new SoldYear();
      x.sale(name, 0, 1);
      mays(x, name - 1, 7, name - 1);
      mays(x, name, 7, name, name + 1);
      // one more: the seller's a year ahead, the buyer's a year behind
      mays(x, name + 1, 7, name, name + 1, name + 2);
      mays(x, name + 2, 7, name + 1, name + 2, name + 3);
    }
    SoldYear x = new SoldYear();
    x.sale(30, 0, 1);
    x.sale(30, 2, 3);
    mays(x, 30, 0, 30, 31);
    mays(x, 31, 364, 30, 31 + 1);
  }

  private static void mayAtBothEnds() {
    Edges.sentence("MAY of a PAPER: all DAYS whose DATE is that in some COUNTY, each once, in order.");
    SoldYear x = new SoldYear();
    mays(x, 0, 0, 0);
    mays(x, 0, 364, 0);
    mays(x, 199, 0, 199);
    mays(x, 199, 364, 199);
    mays(x, 200, 0);
    mays(x, 206, 364);
    for (int i = 0; i < 6; i++) {
      x.sale(1 + i, 0, 1);
    }
    mays(x, 0, 0, 0);
    mays(x, 1, 0, 1, 2);
    mays(x, 2, 0, 2, 3, 4);
    mays(x, 205, 364, 199);
    mays(x, 204, 364, 198);
    mays(x, 206, 0);
    mays(x, 199, 0, 193, 199);
    mays(x, 200, 0, 194);
    mays(x, 193, 1, 187, 193, 199);
    mays(x, 194, 1, 188, 194);
  }

  private static void mayOfMany() {
    Edges.sentence("MAY of a PAPER: all DAYS whose DATE is that in some COUNTY, each once, in order.");
    // 50 is sold by 0 and by 2 below it, bought by 1 and 3
    SoldYear x = new SoldYear();
    x.sale(50, 2, 1);
    x.sale(50, 0, 3);
    x.sale(40, 2, 3);
    x.sale(41, 2, 3);
    x.sale(42, 0, 1);
    // 1: once ahead, so 51 and 52; 3: twice ahead, so 52 and 53
    mays(x, 50, 9, 51, 52, 53);
    // 0: sold two: 49; 1: bought two: 53; 2: sold three: 48; 3: bought three: 54
    mays(x, 51, 9, 48, 49, 53, 54);
    x.undo();
    mays(x, 51, 9, 48, 50, 52, 54);
  }

  private static void rowsOfFew() {
    Edges.sentence("ROWS (1 without PAPERS).");
    SoldYear x = new SoldYear();
    Edges.due("none", x.rows(), 1);
    x.paper(5, 5);
    Edges.due("one of one day", x.rows(), 1);
    x.burn();
    Edges.due("none again", x.rows(), 1);
    x.paper(206, 5);
    Edges.due("one of no day", x.rows(), 0);
    x.burn();
    x.sale(5, 0, 1);
    x.paper(5, 5);
    Edges.due("one of two days", x.rows(), 2);
    x.paper(6, 5);
    Edges.due("and one of three: 5, 6 and 5, 6, 7", x.rows(), 3);
  }

  private static void laterByADay() {
    Edges.sentence("ROWS: in how many ways each PAPER can be one of its DAYS so that each is later than the PAPER ahead.");
    for (int of : new int[] {1, 2, 363}) {
      SoldYear x = new SoldYear();
      x.paper(20, of);
      x.paper(20, of - 1);
      Edges.due("a day ahead", x.rows(), 0);
      x.burn();
      x.paper(20, of);
      Edges.due("one day", x.rows(), 0);
      x.burn();
      x.paper(20, of + 1);
      Edges.due("a day later", x.rows(), 1);
    }
    SoldYear x = new SoldYear();
    x.paper(20, 364);
    x.paper(21, 0);
    Edges.due("the first day of the next year", x.rows(), 1);
    x.burn();
    x.burn();
    x.paper(0, 0);
    x.paper(199, 364);
    Edges.due("the first day and the last", x.rows(), 1);
    x.burn();
    x.burn();
    x.paper(199, 364);
    x.paper(0, 0);
    Edges.due("the last day and the first", x.rows(), 0);
  }

  /** Eight papers of four days each, a day later each: any years that don't go down. */
  private static void rowsOfMany() {
    Edges.sentence("ROWS: in how many ways each PAPER can be one of its DAYS so that each is later than the PAPER ahead.");
    SoldYear x = new SoldYear();
    x.sale(40, 0, 1);
    x.sale(41, 2, 3);
    x.sale(42, 2, 3);
    // 60: YEARS 59, 61, 58, 62
    long[] ways = {1, 1, 1, 1};
    for (int i = 0; i < 8; i++) {
      x.paper(60, 10 + i);
      long sum = ways[0] + ways[1] + ways[2] + ways[3];
      Edges.due("papers " + (i + 1), x.rows(), sum);
      for (int k = 1; k < 4; k++) {
        ways[k] += ways[k - 1];
      }
    }
    Edges.due("8 of 4 in order", x.rows(), 165);
    SoldYear y = new SoldYear();
    y.sale(40, 0, 1);
    y.sale(41, 2, 3);
    y.sale(42, 2, 3);
    long[] falling = {4, 6, 4, 1, 0, 0, 0, 0};
    for (int i = 0; i < 8; i++) {
      y.paper(60, 20 - i);
      Edges.due("each needs a later year, papers " + (i + 1), y.rows(), falling[i]);
    }
  }

  private static void spanPlaces() {
    Edges.sentence("SPAN of a PAPER: greatest 0 the least, 1 the greatest. BEYOND. NONE: there are no ROWS.");
    // 41 is day 100 of YEAR 41 or 42; 42 is day 10 of 41, 42 or 43
    int[] days = {40 * YEAR + 300, 41 * YEAR + 100, 42 * YEAR + 10};
    Edges.within("paper", 0, 2, (x, v) -> x.span(v, 0), v -> days[v]);
    int[] ends = {41 * YEAR + 100, 42 * YEAR + 100};
    Edges.within("greatest", 0, 1, (x, v) -> x.span(1, v), v -> ends[v]);
    Edges.refusedAnew("no paper", Checks.BEYOND, x -> 0, x -> x.span(0, 0));
    Edges.refused("one that burnt", Checks.BEYOND, SoldYear::burn, x -> x.span(2, 0));
    Edges.refused("no rows, the first", Checks.NONE, x -> x.paper(206, 0), x -> x.span(0, 0));
    Edges.refused("no rows, the first", Checks.NONE, x -> x.paper(206, 0), x -> x.span(0, 1));
    Edges.refused("no rows, the last", Checks.NONE, x -> x.paper(206, 0), x -> x.span(3, 0));
    Edges.refused("no rows, the last", Checks.NONE, x -> x.paper(206, 0), x -> x.span(3, 1));
  }

  private static void spansOfOne() {
    Edges.sentence("SPAN of a PAPER: the least, the greatest DAY that it is in any of them.");
    for (int name : new int[] {0, 1, 198, 199}) {
      for (int of : new int[] {0, 1, 363, 364}) {
        SoldYear x = new SoldYear();
        x.paper(name, of);
        Edges.due("least", x.span(0, 0), name * YEAR + of);
        Edges.due("greatest", x.span(0, 1), name * YEAR + of);
      }
    }
  }

  private static void spansOfTwo() {
    Edges.sentence("SPAN of a PAPER: the least, the greatest DAY that it is in any of them.");
    for (int of = 99; of <= 101; of++) {
      SoldYear x = new SoldYear();
      x.sale(41, 0, 1);
      x.paper(41, 100);
      x.paper(41, of);
      // YEARS 41 and 42 each
      Edges.due("rows", x.rows(), of > 100 ? 3 : 1);
      Edges.due("first, least", x.span(0, 0), 41 * YEAR + 100);
      Edges.due("first, greatest", x.span(0, 1), (of > 100 ? 42 : 41) * YEAR + 100);
      Edges.due("second, least", x.span(1, 0), (of > 100 ? 41 : 42) * YEAR + of);
      Edges.due("second, greatest", x.span(1, 1), 42 * YEAR + of);
    }
  }

  /** Two of the second PAPER's DAYS are too early, or two of the first one's too late. */
  private static void spansFarOn() {
    Edges.sentence("SPAN of a PAPER: the least, the greatest DAY that it is in any of them.");
    SoldYear x = new SoldYear();
    x.sale(41, 0, 1);
    // YEARS of the NAME 41: 41, 42; 42: 41, 42, 43; 43: 42, 43, 44; 44: 43, 44, 45
    x.paper(43, 100);
    x.paper(42, 50);
    Edges.due("rows", x.rows(), 1);
    for (int greatest = 0; greatest < 2; greatest++) {
      Edges.due("of the first", x.span(0, greatest), 42 * 365 + 100);
      Edges.due("of the second", x.span(1, greatest), 43 * 365 + 50);
    }
    x.paper(42, 50);
    Edges.due("no rows", x.span(0, 0), Checks.NONE);
    x.burn();
    x.paper(44, 20);
    Edges.due("rows of three", x.rows(), 2);
    Edges.due("of the third, the least", x.span(2, 0), 44 * 365 + 20);
    Edges.due("of the third, the greatest", x.span(2, 1), 45 * 365 + 20);
    Edges.due("of the second, the greatest", x.span(1, 1), 43 * 365 + 50);
    SoldYear y = new SoldYear();
    y.sale(41, 0, 1);
    y.sale(45, 2, 3);
    y.sale(46, 2, 3);
    // YEARS of the NAME 47: 46 and 48 by the first sale, 47 by none, 45 and 49 by the others
    y.paper(47, 9);
    y.paper(47, 8);
    Edges.due("days", y.paperIs(0, 2), 4);
    Edges.due("the least of the first", y.span(0, 0), y.may(0, 0));
    Edges.due("the least of the second", y.span(1, 0), y.may(1, 1));
    Edges.due("the greatest of the first", y.span(0, 1), y.may(0, 2));
    Edges.due("the greatest of the second", y.span(1, 1), y.may(1, 3));
    Edges.due("rows of two", y.rows(), 6);
  }

  private static void spansWithoutRows() {
    Edges.sentence("NONE: there are no ROWS.");
    SoldYear x = new SoldYear();
    x.sale(41, 0, 1);
    x.paper(41, 100);
    x.paper(41, 100);
    Edges.due("one row", x.rows(), 1);
    Edges.due("the second", x.span(1, 0), 42 * YEAR + 100);
    x.paper(41, 100);
    Edges.due("no row", x.rows(), 0);
    for (int paper = 0; paper < 3; paper++) {
      Edges.due("none", x.span(paper, 0), Checks.NONE);
      Edges.due("none", x.span(paper, 1), Checks.NONE);
    }
    Edges.due("told", x.told(2), 6);
    x.burn();
    x.paper(41, 101);
    Edges.due("a day later", x.span(2, 1), 42 * YEAR + 101);
    Edges.due("told", x.told(2), 6);
  }

  /** A number to seed with whose first draw leaves that rest by 8. */
  private static int seedOf(int rest) {
    for (int z = 0; z < 10000; z++) {
      if ((z * 1103515245 + 12345 >>> 8) % 8 == rest) {
        return z;
      }
    }
    throw new IllegalStateException("no draw leaves " + rest);
  }

  private static void clerkRests() {
    Edges.sentence("a draw each; if its rest by 8 is 0, the NAME is 1 more, if it is 1, 1 less");
    for (int rest = 0; rest < 8; rest++) {
      SoldYear x = new SoldYear();
      x.paper(100, 50);
      int z = seedOf(rest);
      x.seed(z);
      Edges.due("rest " + rest, x.clerk(), rest < 2 ? 1 : 0);
      Edges.due("name", x.paperIs(0, 0), rest == 0 ? 101 : rest == 1 ? 99 : 100);
      Edges.due("day of the year", x.paperIs(0, 1), 50);
      Edges.due("one draw", x.count(7), z * 1103515245 + 12345);
    }
  }

  private static void clerkHolds() {
    Edges.sentence("(held within 0 .. 206)");
    for (int rest = 0; rest < 3; rest++) {
      for (int name : new int[] {0, 1, 2, 204, 205, 206}) {
        SoldYear x = new SoldYear();
        x.paper(name, 0);
        x.seed(seedOf(rest));
        int due = rest == 0 ? Math.min(206, name + 1) : rest == 1 ? Math.max(0, name - 1) : name;
        Edges.due("rest " + rest + ", name " + name + ": others", x.clerk(), due == name ? 0 : 1);
        Edges.due("rest " + rest + ", name " + name, x.paperIs(0, 0), due);
      }
    }
  }

  private static void clerkOfNone() {
    Edges.sentence("A CLERK copies: how many NAMES are others.");
    SoldYear x = new SoldYear();
    x.seed(seedOf(0));
    Edges.due("no papers", x.clerk(), 0);
    Edges.due("no draw", x.count(7), seedOf(0));
    for (int n = 1; n <= 8; n++) {
      x.paper(100, n);
      int z = n * 31;
      int others = 0;
      x.seed(z);
      for (int i = 0; i < n; i++) {
        z = z * 1103515245 + 12345;
        others += (z >>> 8) % 8 < 2 ? 1 : 0;
      }
      Edges.due("papers " + n, x.clerk(), others);
      Edges.due("as many draws", x.count(7), z);
    }
    for (int k = 1; k <= 6; k++) {
      Edges.due("no ERRORS", x.told(k), 0);
    }
  }

  private static void draws() {
    Edges.sentence("each makes it z * 1103515245 + 12345 (an int), and gives z >>> 8.");
    SoldYear x = new SoldYear();
    x.paper(100, 0);
    int z = 1;
    int name = 100;
    boolean below = false;
    for (int i = 0; i < 200; i++) {
      z = z * 1103515245 + 12345;
      below |= z < 0;
      int rest = (int) ((z & 0xFFFFFFFFL) / 256 % 8);
      name += rest == 0 ? 1 : rest == 1 ? -1 : 0;
      x.clerk();
      Edges.due("z after " + i, x.count(7), z);
    }
    Edges.due("some were below 0", below ? 1 : 0, 1);
    Edges.due("the name in the end", x.paperIs(0, 0), name);
    for (int from : new int[] {Integer.MIN_VALUE, -1, 0, 1, Integer.MAX_VALUE}) {
      x.seed(from);
      x.clerk();
      Edges.due("z after " + from, x.count(7), (int) (from * 1103515245L + 12345L));
    }
  }

  private static void seeds() {
    Edges.sentence("z becomes v: what it was (any number).");
    SoldYear x = new SoldYear();
    int was = 1;
    int[] numbers = {Integer.MIN_VALUE, -1, 0, 1, Integer.MAX_VALUE, -1000000000, -1000000001, -1000000006, -1000000007};
    for (int v : numbers) {
      Edges.due("z was", x.seed(v), was);
      Edges.due("z is", x.count(7), v);
      was = v;
    }
    Edges.due("z was", x.seed(1), was);
    for (int k = 1; k <= 6; k++) {
      Edges.due("no ERRORS", x.told(k), 0);
    }
    Edges.same("as at first", x, new SoldYear());
  }
}
