/** The boundaries in promises 1 to 8 and in what the terms say of the sky, of NAMES and of SALES. */
public final class SalesEdgesTest {
  public static void main(String[] args) {
    errors();
    asAtFirst();
    fewestCalls();
    soldNames();
    counties();
    oneCountyTwice();
    soldOrBought();
    sixSales();
    orderOfErrors();
    whatOfSales();
    undoToNone();
    yearsOfTheSky();
    leastAndGreatestSold();
    neighbours();
    daysOfTheSky();
    dates();
    daysOfNames();
    firstAndSecond();
    noSuchDay();
    daysThatPass();
    lastDay();
    Checks.end("SalesEdgesTest");
  }

  private static void errors() {
    Edges.sentence("ERRORS are answers below -1000000000: LOW is -1000000000; LOW - 1 BEYOND, LOW - 2 NONE, LOW - 3 STATE, "
        + "LOW - 4 FULL, LOW - 5 KIND, LOW - 6 PARTED");
    SoldYear x = new SoldYear();
    x.thing(0, 0, 0);
    Edges.due("BEYOND", x.name(0, 200), -1000000001);
    Edges.due("NONE", x.body(0), -1000000002);
    Edges.due("STATE", x.undo(), -1000000003);
    for (int i = 0; i < 24; i++) {
      x.tell(i);
    }
    Edges.due("FULL", x.tell(0), -1000000004);
    Edges.due("KIND", x.as(0, 1), -1000000005);
    Edges.due("PARTED", x.voice(0, 3, 1), -1000000006);
    for (int k = 1; k <= 6; k++) {
      Edges.due("told " + k, x.told(k), 1);
    }
    for (int v = -1000000007; v <= -999999999; v++) {
      x.seed(v);
      Edges.due("any number is no ERROR", x.count(7), v);
      Edges.due("a voice's number is no ERROR", x.voice(0, 0, v), v);
    }
    for (int k = 1; k <= 6; k++) {
      Edges.due("told " + k + " still", x.told(k), 1);
    }
  }

  private static void asAtFirst() {
    Edges.sentence("All as at first; no SALES, THINGS, PAPERS; no COMET.");
    for (int sheet = 0; sheet < 4; sheet++) {
      Edges.due("missing sheet " + sheet, new SoldYear().put(sheet, 0, 0), Checks.NONE);
    }
    Edges.due("no sale 0", new SoldYear().saleIs(0, 0), Checks.BEYOND);
    Edges.due("no sale to undo", new SoldYear().undo(), Checks.STATE);
    Edges.due("no thing 0", new SoldYear().thingIs(0, 0), Checks.BEYOND);
    Edges.due("no paper 0", new SoldYear().paperIs(0, 0), Checks.BEYOND);
    Edges.due("no paper to burn", new SoldYear().burn(), Checks.STATE);
    Edges.due("no comet", new SoldYear().claim(0), Checks.STATE);
    Edges.due("no image", new SoldYear().restore(), Checks.NONE);
    Edges.due("no trace", new SoldYear().body(0), Checks.NONE);
    Edges.due("no texts", new SoldYear().untell(0) + new SoldYear().untell(1), 0);
    Edges.due("no tape", new SoldYear().text(0), -10);
    Edges.due("none wait", new SoldYear().tell(5), 1);
    Edges.due("now", new SoldYear().pass(1), 1);
    Edges.due("z", new SoldYear().seed(5), 1);
    Edges.due("no twins", new SoldYear().twins(), 0);
    for (int county = 0; county < 4; county++) {
      for (int year = 0; year < 200; year += year == 0 || year == 198 ? 1 : 99) {
        Edges.due("a name", new SoldYear().name(county, year), year);
      }
    }
    SoldYear used = Edges.rich();
    used.pass(1);
    Edges.same("another object is new, too", new SoldYear(), new SoldYear());
    Edges.due("the used one isn't", used.count(0), 3);
  }

  /** The 511th, the 512th call are answered as the others are. */
  private static void fewestCalls() {
    Edges.sentence("An object is used for at most 512 calls after it has been made");
    SoldYear x = new SoldYear();
    for (int call = 1; call <= 509; call++) {
      x.undo();
    }
    Edges.due("call 510", x.told(3), 509);
    Edges.due("call 511", x.undo(), Checks.STATE);
    Edges.due("call 512", x.told(3), 510);
    SoldYear y = new SoldYear();
    for (int call = 1; call <= 512; call++) {
      Edges.due("image " + call, y.image(), call);
    }
    SoldYear z = new SoldYear();
    for (int call = 1; call <= 512; call++) {
      Edges.due("day " + call, z.pass(1), call);
    }
  }

  private static void soldNames() {
    Edges.sentence("SALES 0, 1, .. (at most 6): of a NAME (1 .. 150), from a COUNTY to another one");
    Edges.within("sale", 1, 150, (x, v) -> x.sale(v, 0, 3), v -> 3);
    Edges.within("breaks", 1, 150, (x, v) -> x.breaks(v, 3, 2), v -> 0);
    Edges.refused("name 0", Checks.BEYOND, x -> x.sale(0, 1, 2));
    Edges.refused("name 151", Checks.BEYOND, x -> x.sale(151, 1, 2));
    SoldYear x = new SoldYear();
    Edges.due("name 1", x.sale(1, 1, 2), 0);
    Edges.due("name 150", x.sale(150, 1, 2), 1);
    Edges.due("name 2", x.sale(2, 1, 2), 2);
    Edges.due("name 149", x.sale(149, 1, 2), 3);
    int[] names = {1, 150, 2, 149};
    for (int i = 0; i < names.length; i++) {
      Edges.due("name of sale " + i, x.saleIs(i, 0), names[i]);
    }
  }

  private static void counties() {
    Edges.sentence("COUNTIES 0 .. 3 give each YEAR a NAME");
    Edges.within("sale from", 0, 3, (x, v) -> x.sale(7, v, v == 0 ? 1 : 0), v -> 3);
    Edges.within("sale to", 0, 3, (x, v) -> x.sale(7, v == 0 ? 1 : 0, v), v -> 3);
    Edges.within("name", 0, 3, (x, v) -> x.name(v, 9), v -> 9);
    Edges.within("date", 0, 3, (x, v) -> x.date(v, 9), v -> 9);
    Edges.within("day", 0, 3, (x, v) -> x.day(v, 9, 8, 0), v -> 9 * 365 + 8);
    Edges.within("thing", 0, 3, (x, v) -> x.thing(0, v, 9), v -> 4);
    Edges.within("set", 0, 3, (x, v) -> x.set(0, 2, v), v -> 0);
    Edges.within("age", 0, 3, (x, v) -> x.age(3, v, 465), v -> 1);
    Edges.within("comes", 0, 3, (x, v) -> x.comes(3, v, 1), v -> 465);
    Edges.within("judge", 0, 3, (x, v) -> x.judge(0, v, 10), v -> 1);
    // NOW is in YEAR 54: 55 in county 0, 54 in county 1; what is sold up to there breaks the birth or the told one
    Edges.within("least from", 0, 3, (x, v) -> x.least(v, v == 0 ? 1 : 0), v -> v == 0 ? 56 : v == 1 ? 55 : 1);
    Edges.within("least to", 0, 3, (x, v) -> x.least(v == 0 ? 1 : 0, v), v -> v == 0 ? 55 : 56);
    Edges.within("breaks from", 0, 3, (x, v) -> x.breaks(150, v, v == 0 ? 1 : 0), v -> 0);
    Edges.within("breaks to", 0, 3, (x, v) -> x.breaks(150, v == 0 ? 1 : 0, v), v -> 0);
  }

  private static void oneCountyTwice() {
    Edges.sentence("BEYOND: also from and to are one.");
    for (int from = 0; from < 4; from++) {
      for (int to = 0; to < 4; to++) {
        int one = from;
        int other = to;
        if (from == to) {
          Edges.refused("one county " + from, Checks.BEYOND, x -> x.sale(7, one, other));
        } else {
          Edges.due("from " + from + " to " + to, Edges.rich().sale(7, one, other), 3);
        }
      }
    }
  }

  private static void soldOrBought() {
    Edges.sentence("STATE: the one has SOLD or BOUGHT that NAME, or the other one has.");
    // 41 went from 0 to 1, 44 from 2 to 3, 50 from 1 to 2
    int[][] refused = {{41, 0, 1}, {41, 1, 0}, {41, 0, 2}, {41, 2, 0}, {41, 1, 3}, {41, 3, 1}, {44, 2, 3}, {44, 0, 3},
        {44, 2, 1}, {50, 0, 1}, {50, 2, 3}};
    for (int[] s : refused) {
      Edges.refused("sale of " + s[0] + " from " + s[1] + " to " + s[2], Checks.STATE, x -> x.sale(s[0], s[1], s[2]));
      Edges.refused("breaks by " + s[0] + " from " + s[1] + " to " + s[2], Checks.STATE, x -> x.breaks(s[0], s[1], s[2]));
    }
    int[][] made = {{41, 2, 3}, {41, 3, 2}, {44, 0, 1}, {44, 1, 0}, {50, 0, 3}, {40, 0, 1}, {42, 0, 1}, {43, 2, 3},
        {45, 2, 3}};
    for (int[] s : made) {
      Edges.due("sale of " + s[0] + " from " + s[1] + " to " + s[2], Edges.rich().sale(s[0], s[1], s[2]), 3);
    }
    Edges.sentence("(A COUNTY has SOLD, or BOUGHT, each NAME once at most.)");
    SoldYear x = Edges.rich();
    x.undo();
    Edges.due("undone, it can be sold anew", x.sale(50, 2, 1), 2);
    Edges.due("and not again", x.sale(50, 1, 2), Checks.STATE);
  }

  private static void sixSales() {
    Edges.sentence("SALES 0, 1, .. (at most 6)");
    SoldYear x = new SoldYear();
    for (int i = 0; i < 6; i++) {
      Edges.due("sale " + i, x.sale(10 + i, 0, 1), i);
      Edges.due("how many", x.count(0), i + 1);
    }
    Edges.due("a seventh", x.sale(30, 0, 1), Checks.FULL);
    Edges.refused("the seventh, from others", Checks.FULL, SalesEdgesTest::sellThree, y -> y.sale(30, 2, 3));
    Edges.sentence("BREAKS. BEYOND, STATE: as of sale(). FULL: no SALE can be made any more.");
    Edges.refused("breaks by a seventh", Checks.FULL, SalesEdgesTest::sellThree, y -> y.breaks(30, 2, 3));
    Edges.due("breaks by a sixth", sellTwo().breaks(30, 2, 3), 0);
    Edges.due("the sixth", sellTwo().sale(30, 2, 3), 5);
    Edges.sentence("FULL. NONE: none can be SOLD.");
    Edges.due("least as the sixth", sellTwo().least(3, 1), 1);
    Edges.refused("least as the seventh", Checks.FULL, SalesEdgesTest::sellThree, y -> y.least(2, 3));
    Edges.sentence("SALES 0, 1, .. (at most 6)");
    Edges.due("one less", x.undo(), 5);
    Edges.due("the sixth anew", x.sale(30, 0, 1), 5);
    Edges.due("a seventh", x.sale(31, 0, 1), Checks.FULL);
    Edges.due("six", x.count(0), 6);
  }

  private static SoldYear sellTwo() {
    SoldYear x = Edges.rich();
    sellThree(x);
    x.undo();
    return x;
  }

  /** After the three that are there. */
  private static long sellThree(SoldYear x) {
    return x.sale(100, 0, 1) + x.sale(101, 1, 2) + x.sale(102, 3, 2);
  }

  private static void orderOfErrors() {
    Edges.sentence("Each act tells its ERRORS in the order in which they are asked");
    Edges.refused("BEYOND of one county ahead of STATE", Checks.BEYOND, x -> x.sale(41, 0, 0));
    Edges.refused("BEYOND of the name ahead of FULL", Checks.BEYOND, SalesEdgesTest::sellThree, x -> x.sale(151, 0, 1));
    Edges.refused("BEYOND of one county ahead of FULL", Checks.BEYOND, SalesEdgesTest::sellThree, x -> x.sale(9, 2, 2));
    Edges.refused("STATE ahead of FULL", Checks.STATE, SalesEdgesTest::sellThree, x -> x.sale(41, 0, 2));
    Edges.refused("breaks: BEYOND ahead of STATE", Checks.BEYOND, x -> x.breaks(41, 1, 1));
    Edges.refused("breaks: BEYOND ahead of FULL", Checks.BEYOND, SalesEdgesTest::sellThree, x -> x.breaks(0, 0, 1));
    Edges.refused("breaks: STATE ahead of FULL", Checks.STATE, SalesEdgesTest::sellThree, x -> x.breaks(41, 0, 2));
    Edges.refused("least: BEYOND ahead of FULL", Checks.BEYOND, SalesEdgesTest::sellThree, x -> x.least(2, 2));
    Edges.refusedAnew("pass: BEYOND ahead of STATE", Checks.BEYOND, SalesEdgesTest::passToTheEnd, x -> x.pass(10000));
  }

  private static void whatOfSales() {
    Edges.sentence("Of a SALE: 0 the NAME, 1 from, 2 to. BEYOND.");
    int[] last = {50, 1, 2};
    Edges.within("what", 0, 2, (x, v) -> x.saleIs(2, v), v -> last[v]);
    int[] names = {41, 44, 50};
    Edges.within("sale", 0, 2, (x, v) -> x.saleIs(v, 0), v -> names[v]);
    Edges.refusedAnew("there is none", Checks.BEYOND, x -> 0, x -> x.saleIs(0, 0));
    Edges.refused("undone", Checks.BEYOND, SoldYear::undo, x -> x.saleIs(2, 0));
    Edges.refused("a seventh", Checks.BEYOND, SalesEdgesTest::sellThree, x -> x.saleIs(6, 0));
    SoldYear x = Edges.rich();
    sellThree(x);
    Edges.due("the sixth", x.saleIs(5, 0), 102);
    Edges.due("the sixth's seller", x.saleIs(5, 1), 3);
  }

  private static void undoToNone() {
    Edges.sentence("The SALE that was made last is undone: how many are left. STATE: there is none.");
    SoldYear x = new SoldYear();
    for (int i = 0; i < 6; i++) {
      x.sale(60 - i, 0, 1);
    }
    for (int left = 5; left >= 0; left--) {
      Edges.due("left", x.undo(), left);
      Edges.due("names that are left out", x.name(0, 199), 199 + left);
      Edges.due("names that are there twice", x.name(1, 199), 199 - left);
    }
    Edges.due("none", x.undo(), Checks.STATE);
    Edges.refused("none", Checks.STATE, y -> y.undo() + y.undo() + y.undo(), SoldYear::undo);
    Edges.refusedAnew("none yet", Checks.STATE, y -> 0, SoldYear::undo);
  }

  private static void yearsOfTheSky() {
    Edges.sentence("THE SKY has YEARS 0 .. 199 of 365 DAYS each: DAYS 0 .. 72999.");
    Edges.within("name", 0, 199, (x, v) -> x.name(3, v), v -> v > 44 ? v - 1 : v);
    Edges.within("date", 0, 72999, (x, v) -> x.date(3, v), v -> v > 1 ? 198000 + v - 199 * 365 : v);
    Edges.within("judge", 0, 199, (x, v) -> x.judge(2, 3, v), v -> v == 1 ? 4 : 0);
    SoldYear x = new SoldYear();
    Edges.due("the last of a year", x.date(0, 364), 364);
    Edges.due("the first of the next", x.date(0, 365), 1000);
    Edges.due("the second of the next", x.date(0, 366), 1001);
    Edges.due("the first of the last", x.date(0, 72635), 199000);
    Edges.due("the last of the last but one", x.date(0, 72634), 198364);
  }

  private static void leastAndGreatestSold() {
    Edges.sentence("one NAME for one YEAR, but a NAME that the COUNTY has SOLD is left out, and a NAME that it has BOUGHT "
        + "is given to two YEARS, one behind the other");
    for (int name : new int[] {1, 2, 149, 150}) {
      SoldYear x = new SoldYear();
      x.sale(name, 2, 1);
      Edges.due("seller, ahead of " + name, x.name(2, name - 1), name - 1);
      Edges.due("seller, left out " + name, x.name(2, name), name + 1);
      Edges.due("seller, behind " + name, x.name(2, name + 1), name + 2);
      Edges.due("seller, first", x.name(2, 0), 0);
      Edges.due("seller, last", x.name(2, 199), 200);
      Edges.due("buyer, ahead of " + name, x.name(1, name - 1), name - 1);
      Edges.due("buyer, once " + name, x.name(1, name), name);
      Edges.due("buyer, twice " + name, x.name(1, name + 1), name);
      Edges.due("buyer, behind " + name, x.name(1, name + 2), name + 1);
      Edges.due("buyer, last", x.name(1, 199), 198);
      Edges.due("another", x.name(0, name), name);
      Edges.due("another, last", x.name(3, 199), 199);
    }
  }

  /** NAMES that stand side by side, sold and bought, in every order of making. */
  private static void neighbours() {
    Edges.sentence("one NAME for one YEAR, but a NAME that the COUNTY has SOLD is left out, and a NAME that it has BOUGHT "
        + "is given to two YEARS, one behind the other");
    int[][] orders = {{0, 1, 2}, {0, 2, 1}, {1, 0, 2}, {1, 2, 0}, {2, 0, 1}, {2, 1, 0}};
    for (int code = 0; code < 8; code++) {
      int[] due = new int[12];
      int year = 0;
      for (int name = 0; year < 12; name++) {
        boolean traded = name >= 4 && name <= 6;
        int times = !traded ? 1 : (code >> (name - 4) & 1) == 0 ? 0 : 2;
        for (; times > 0 && year < 12; times--) {
          due[year++] = name;
        }
      }
      for (int[] order : orders) {
        SoldYear x = new SoldYear();
        for (int i : order) {
          boolean buys = (code >> i & 1) != 0;
          x.sale(4 + i, buys ? 3 : 0, buys ? 0 : 3);
        }
        for (int y = 0; y < 12; y++) {
          Edges.due("code " + code + ", year " + y, x.name(0, y), due[y]);
        }
      }
    }
    SoldYear x = new SoldYear();
    for (int i = 0; i < 6; i++) {
      x.sale(150 - i, 0, 1);
    }
    int[] seller = {143, 144, 151, 152};
    for (int i = 0; i < 4; i++) {
      Edges.due("six sold in a row", x.name(0, 143 + i), seller[i]);
    }
    for (int i = 0; i < 16; i++) {
      Edges.due("six bought in a row", x.name(1, 143 + i), i < 2 ? 143 + i : i > 13 ? 137 + i : 145 + (i - 2) / 2);
    }
    Edges.due("the greatest NAME", x.name(0, 199), 205);
    Edges.due("the least of a last YEAR", x.name(1, 199), 193);
  }

  private static void daysOfTheSky() {
    Edges.sentence("A DATE in a COUNTY: the NAME of a DAY's YEAR, and which DAY of the YEAR it is (0 .. 364), told as 1000 "
        + "times the NAME, and the latter.");
    SoldYear x = new SoldYear();
    x.sale(1, 0, 1);
    int[] days = {0, 1, 363, 364, 365, 366, 729, 730, 1094, 1095};
    int[] seller = {0, 1, 363, 364, 2000, 2001, 2364, 3000, 3364, 4000};
    int[] buyer = {0, 1, 363, 364, 1000, 1001, 1364, 1000, 1364, 2000};
    for (int i = 0; i < days.length; i++) {
      Edges.due("seller, day " + days[i], x.date(0, days[i]), seller[i]);
      Edges.due("buyer, day " + days[i], x.date(1, days[i]), buyer[i]);
    }
    Edges.due("seller, the last", x.date(0, 72999), 200364);
    Edges.due("buyer, the last", x.date(1, 72999), 198364);
    Edges.due("buyer, the last but one", x.date(1, 72998), 198363);
  }

  private static void dates() {
    Edges.sentence("The DATE of a DAY in a COUNTY. BEYOND.");
    Edges.refused("a day too small", Checks.BEYOND, x -> x.date(0, -1));
    Edges.refused("a day too great", Checks.BEYOND, x -> x.date(0, 73000));
    Edges.refused("a county too small", Checks.BEYOND, x -> x.date(-1, 0));
    Edges.refused("a county too great", Checks.BEYOND, x -> x.date(4, 72999));
    Edges.sentence("The NAME of a YEAR in a COUNTY. BEYOND.");
    Edges.refused("a year too small", Checks.BEYOND, x -> x.name(0, -1));
    Edges.refused("a year too great", Checks.BEYOND, x -> x.name(0, 200));
    Edges.refused("a county too small", Checks.BEYOND, x -> x.name(-1, 0));
    Edges.refused("a county too great", Checks.BEYOND, x -> x.name(4, 199));
  }

  private static void daysOfNames() {
    Edges.sentence("The DAY whose DATE in a COUNTY is that (a NAME 0 .. 206, a DAY of the YEAR), i: 0 the first, 1 the "
        + "second one. BEYOND.");
    Edges.within("name", 0, 206, (x, v) -> x.day(0, v, 364, 0), v -> v > 1 ? Checks.NONE : v * 365 + 364);
    Edges.within("of", 0, 364, (x, v) -> x.day(0, 2, v, 0), v -> 730 + v);
    Edges.within("i", 0, 1, (x, v) -> x.day(1, 41, 7, v), v -> (41 + v) * 365 + 7);
    Edges.within("i of a name that is there once", 0, 1, (x, v) -> x.day(1, 40, 7, v), v -> v == 0 ? 14607 : Checks.NONE);
    SoldYear x = new SoldYear();
    for (int i = 0; i < 6; i++) {
      x.sale(1 + i, 0, 1);
    }
    Edges.due("the greatest NAME there can be", x.day(0, 205, 364, 0), 72999);
    Edges.due("it is there once", x.day(0, 205, 364, 1), Checks.NONE);
    Edges.due("one more", x.day(0, 206, 364, 0), Checks.NONE);
    Edges.due("one less", x.day(0, 204, 0, 0), 198 * 365);
    Edges.due("the greatest where six are twice", x.day(1, 193, 364, 0), 72999);
    Edges.due("one more", x.day(1, 194, 0, 0), Checks.NONE);
  }

  private static void firstAndSecond() {
    Edges.sentence("i: 0 the first, 1 the second one");
    for (int name : new int[] {1, 150}) {
      SoldYear x = new SoldYear();
      x.sale(name, 3, 2);
      Edges.due("first " + name, x.day(2, name, 5, 0), name * 365 + 5);
      Edges.due("second " + name, x.day(2, name, 5, 1), name * 365 + 370);
      Edges.due("one less, first", x.day(2, name - 1, 5, 0), (name - 1) * 365 + 5);
      Edges.due("one less, second", x.day(2, name - 1, 5, 1), Checks.NONE);
      Edges.due("one more, first", x.day(2, name + 1, 5, 0), name * 365 + 735);
      Edges.due("one more, second", x.day(2, name + 1, 5, 1), Checks.NONE);
    }
  }

  private static void noSuchDay() {
    Edges.sentence("NONE: there is none.");
    Edges.refused("a NAME that is sold", Checks.NONE, x -> x.day(0, 41, 0, 0));
    Edges.refused("a NAME that is sold, second", Checks.NONE, x -> x.day(0, 41, 0, 1));
    Edges.refused("a second one of a NAME that is there once", Checks.NONE, x -> x.day(0, 42, 0, 1));
    Edges.refused("a NAME above the last YEAR's", Checks.NONE, x -> x.day(0, 201, 0, 0));
    Edges.refused("BEYOND of i ahead of NONE", Checks.BEYOND, x -> x.day(0, 41, 0, 2));
    SoldYear x = Edges.rich();
    Edges.due("one less than the sold one", x.day(0, 40, 0, 0), 14600);
    Edges.due("one more than the sold one", x.day(0, 42, 0, 0), 14965);
    Edges.due("the last YEAR's NAME", x.day(0, 200, 0, 0), 72635);
    Edges.due("told NONE: the trace's alone", x.told(2), 1);
  }

  private static void daysThatPass() {
    Edges.sentence("NOW is one of them (0 at first).");
    Edges.due("now", new SoldYear().count(3), 0);
    SoldYear x = new SoldYear();
    passToTheEnd(x);
    Edges.due("the last one", x.count(3), 72999);
    Edges.sentence("n (1 .. 9999) DAYS go by: NOW. BEYOND.");
    Edges.within("pass", 1, 9999, SoldYear::pass, v -> 20001 + v);
  }

  private static long passToTheEnd(SoldYear x) {
    for (int i = 0; i < 7; i++) {
      x.pass(9999);
    }
    return x.pass(3006);
  }

  private static void lastDay() {
    Edges.sentence("STATE: it would be above 72999.");
    SoldYear x = new SoldYear();
    Edges.due("the last day", passToTheEnd(x), 72999);
    Edges.due("now", x.count(3), 72999);
    Edges.due("one more", x.pass(1), Checks.STATE);
    Edges.due("now", x.count(3), 72999);
    for (int n : new int[] {1, 2, 9998, 9999}) {
      Edges.refusedAnew(n + " more", Checks.STATE, SalesEdgesTest::passToTheEnd, y -> y.pass(n));
      SoldYear y = new SoldYear();
      while (y.count(3) + 9999 < 72999 - n) {
        y.pass(9999);
      }
      y.pass(72999 - n - y.count(3) - 1);
      Edges.due("a day too many is " + (n + 2), n + 2 <= 9999 ? y.pass(n + 2) : Checks.STATE, Checks.STATE);
      Edges.due("one ahead of the last day", y.pass(n), 72998);
      Edges.due("the last day", y.pass(1), 72999);
    }
  }
}
