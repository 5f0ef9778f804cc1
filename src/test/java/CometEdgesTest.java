/** The boundaries in promises 28 to 31 and in what the terms say of THE COMET, of BREAKS and of LEAST. */
public final class CometEdgesTest {
  private static final int YEAR = 365;

  public static void main(String[] args) {
    daysOfComet();
    yearsBetween();
    howOften();
    anotherComet();
    claimsOfNames();
    yearsOfClaims();
    claimsOfTradedNames();
    noComet();
    breaksOfNone();
    breaksByYears();
    breaksOfWine();
    breaksOfRent();
    breaksAreNotMade();
    breaksBesideSales();
    leastOfSixty();
    leastOfAll();
    leastOfSold();
    leastRefused();
    Checks.end("CometEdgesTest");
  }

  private static void daysOfComet() {
    Edges.sentence("THE COMET is seen on a DAY and each p YEARS later: how often till DAY 72999. BEYOND.");
    Edges.within("day", 0, 72999, (x, v) -> x.comet(v, 1), v -> v > 1 ? 1 : 200);
    Edges.within("day, each 99 years", 0, 72999, (x, v) -> x.comet(v, 99), v -> v > 1 ? 1 : 3);
  }

  private static void yearsBetween() {
    Edges.sentence("A COMET is seen on a DAY and each p YEARS (1 .. 99) later");
    Edges.within("p", 1, 99, (x, v) -> x.comet(0, v), v -> v == 1 ? 200 : v == 2 ? 100 : 3);
  }

  private static void howOften() {
    Edges.sentence("how often till DAY 72999");
    for (int p : new int[] {1, 2, 98, 99}) {
      SoldYear x = new SoldYear();
      Edges.due("once more on the last day", x.comet(72999 - p * YEAR, p), 2);
      Edges.due("on the last day but one", x.comet(72998 - p * YEAR, p), 2);
      Edges.due("a day too late", x.comet(73000 - p * YEAR, p), 1);
      Edges.due("on the last day alone", x.comet(72999, p), 1);
      if (p < 99) {
        Edges.due("twice more on the last day", x.comet(72999 - 2 * p * YEAR, p), 3);
        Edges.due("a day too late", x.comet(73000 - 2 * p * YEAR, p), 2);
      }
    }
  }

  private static void anotherComet() {
    Edges.sentence("THE COMET is seen on a DAY and each p YEARS later: how often till DAY 72999. BEYOND.");
    SoldYear x = new SoldYear();
    x.comet(10 * YEAR, 99);
    Edges.due("the first", x.claim(10), 15);
    x.comet(11 * YEAR, 99);
    Edges.due("not any more", x.claim(10), 0);
    Edges.due("another one", x.claim(11), 15);
    Edges.due("refused", x.comet(-1, 99), Checks.BEYOND);
    Edges.due("it stays", x.claim(11), 15);
    Edges.due("refused", x.comet(0, 100), Checks.BEYOND);
    Edges.due("it stays", x.claim(11), 15);
  }

  private static void claimsOfNames() {
    Edges.sentence("CLAIM of a NAME (0 .. 206). BEYOND. STATE: there is no COMET.");
    Edges.within("claim", 0, 206, SoldYear::claim, v -> 0);
    SoldYear x = new SoldYear();
    x.comet(0, 1);
    Edges.due("0", x.claim(0), 15);
    Edges.due("1", x.claim(1), 15);
    Edges.due("199", x.claim(199), 15);
    Edges.due("200", x.claim(200), 0);
    for (int i = 0; i < 6; i++) {
      x.sale(1 + i, 2, 3);
    }
    Edges.due("199", x.claim(199), 7);
    Edges.due("200", x.claim(200), 4);
    Edges.due("205", x.claim(205), 4);
    Edges.due("206", x.claim(206), 0);
    Edges.due("193", x.claim(193), 15);
    Edges.due("194", x.claim(194), 7);
    Edges.due("1, which is sold", x.claim(1), 11);
    Edges.due("7", x.claim(7), 15);
  }

  private static void yearsOfClaims() {
    Edges.sentence("CLAIM of a NAME: COUNTIES (as bits) in which it is seen in a YEAR of that NAME.");
    for (int day : new int[] {20 * YEAR, 20 * YEAR + 364}) {
      SoldYear x = new SoldYear();
      x.comet(day, 30);
      int[] names = {0, 19, 20, 21, 49, 50, 51, 80, 170, 171, 199, 200};
      int[] due = {0, 0, 15, 0, 0, 15, 0, 15, 15, 0, 0, 0};
      for (int i = 0; i < names.length; i++) {
        Edges.due("name " + names[i], x.claim(names[i]), due[i]);
      }
    }
    SoldYear x = new SoldYear();
    x.comet(0, 1);
    Edges.due("each year", x.claim(0) + x.claim(199), 30);
    x.comet(72999, 1);
    Edges.due("the last day", x.claim(199), 15);
    Edges.due("a year ahead", x.claim(198), 0);
    x.comet(199 * YEAR - 1, 2);
    Edges.due("not in the last year", x.claim(199), 0);
    x.comet(199 * YEAR - 1, 1);
    Edges.due("in the last year", x.claim(199), 15);
    x.comet(YEAR, 99);
    Edges.due("in year 1", x.claim(1), 15);
    Edges.due("in year 100", x.claim(100), 15);
    Edges.due("in year 199", x.claim(199), 15);
    Edges.due("not in year 99", x.claim(99), 0);
  }

  private static void claimsOfTradedNames() {
    Edges.sentence("CLAIM of a NAME: COUNTIES (as bits) in which it is seen in a YEAR of that NAME.");
    SoldYear x = new SoldYear();
    x.sale(41, 0, 1);
    // 41: YEAR 42 in county 1 too; 42: YEAR 41 in county 0, 43 in county 1
    int[][] due = {{15, 0, 0, 0}, {0, 14, 1, 0}, {0, 2, 12, 1}, {0, 0, 2, 12}};
    for (int year = 40; year <= 43; year++) {
      x.comet(year * YEAR + 9, 99);
      for (int name = 40; name <= 43; name++) {
        Edges.due("year " + year + ", name " + name, x.claim(name), due[year - 40][name - 40]);
      }
    }
    x.comet(41 * YEAR, 1);
    Edges.due("41, from year 41 on", x.claim(41), 14);
    Edges.due("42, from year 41 on", x.claim(42), 15);
    x.comet(42 * YEAR, 1);
    Edges.due("41, from year 42 on", x.claim(41), 2);
    x.comet(43 * YEAR, 1);
    Edges.due("41, from year 43 on", x.claim(41), 0);
  }

  private static void noComet() {
    Edges.sentence("STATE: there is no COMET.");
    Edges.refusedAnew("no comet", Checks.STATE, x -> 0, x -> x.claim(0));
    Edges.refusedAnew("no comet", Checks.STATE, x -> 0, x -> x.claim(206));
    Edges.refusedAnew("a refused one is none", Checks.STATE, x -> x.comet(0, 0), x -> x.claim(0));
    Edges.sentence("Each act tells its ERRORS in the order in which they are asked");
    Edges.refusedAnew("BEYOND ahead of STATE", Checks.BEYOND, x -> 0, x -> x.claim(-1));
    Edges.refusedAnew("BEYOND ahead of STATE", Checks.BEYOND, x -> 0, x -> x.claim(207));
    Edges.sentence("All is as the IMAGE has it, which stays: NOW.");
    SoldYear x = new SoldYear();
    x.image();
    x.comet(0, 1);
    Edges.due("a comet", x.claim(0), 15);
    x.restore();
    Edges.due("none as in the image", x.claim(0), Checks.STATE);
  }

  private static void breaksOfNone() {
    Edges.sentence("BREAKS of a SALE that isn't made (a NAME, from, to): how many THINGS would have another AGE NOW, each "
        + "in its own COUNTY, were it made.");
    SoldYear x = new SoldYear();
    Edges.due("no things", x.breaks(1, 0, 1), 0);
    for (int i = 0; i < 10; i++) {
      Edges.due("thing", x.thing(10, 0, 0), i);
      Edges.due("now nothing is another", x.breaks(1, 0, 1), 0);
    }
    x.pass(YEAR);
    Edges.due("all are others", x.breaks(1, 0, 1), 10);
    Edges.due("all but NOW's name", x.breaks(2, 0, 1), 0);
    Edges.due("the buyer's, which the name itself doesn't change", x.breaks(1, 1, 0), 0);
    Edges.due("of others", x.breaks(1, 2, 3), 0);
    x.set(4, 2, 2);
    Edges.due("nine", x.breaks(1, 0, 1), 9);
    Edges.due("one", x.breaks(1, 2, 3), 1);
    Edges.due("ten", x.breaks(1, 0, 2), 9);
  }

  private static void breaksByYears() {
    Edges.sentence("how many THINGS would have another AGE NOW, each in its own COUNTY, were it made");
    SoldYear x = new SoldYear();
    x.thing(10, 0, 20 * YEAR + 100);
    for (int i = 0; i < 30; i++) {
      x.pass(YEAR);
    }
    // a birth of YEAR 20, NOW in YEAR 30
    for (int name = 18; name <= 32; name++) {
      Edges.due("sold " + name, x.breaks(name, 0, 1), name > 20 && name <= 30 ? 1 : 0);
      Edges.due("bought " + name, x.breaks(name, 1, 0), name >= 20 && name < 30 ? 1 : 0);
      Edges.due("of others " + name, x.breaks(name, 1, 2), 0);
    }
    x.set(0, 0, 0);
    for (int name = 18; name <= 32; name++) {
      Edges.due("a deed, " + name, x.breaks(name, 0, 1), 0);
    }
    x.set(0, 0, 6);
    for (int name = 18; name <= 32; name++) {
      // NOW is the day of the year 0, so both are 9, and what is sold makes b more
      Edges.due("told, sold " + name, x.breaks(name, 0, 1), name > 20 && name <= 30 ? 1 : 0);
      Edges.due("told, bought " + name, x.breaks(name, 1, 0), 0);
    }
    x.set(0, 0, 4);
    x.set(0, 1, 8);
    Edges.due("an heir of 1", x.thingIs(0, 4), 1);
    Edges.due("less", x.breaks(25, 1, 0), 1);
    x.set(0, 1, 9);
    Edges.due("an heir of 0", x.thingIs(0, 4), 0);
    Edges.due("0 is least", x.breaks(25, 1, 0), 0);
    Edges.due("more", x.breaks(25, 0, 1), 1);
  }

  private static void breaksOfWine() {
    Edges.sentence("how many THINGS would have another AGE NOW, each in its own COUNTY, were it made");
    SoldYear x = new SoldYear();
    x.thing(50, 2, 10 * YEAR);
    Edges.due("ahead of its day", x.breaks(100, 2, 3), 0);
    x.pass(9999);
    Edges.due("a sale that it has part in", x.breaks(100, 2, 3), 1);
    Edges.due("one more", x.breaks(100, 3, 2), 1);
    Edges.due("no part", x.breaks(100, 0, 3), 0);
    Edges.due("a sale more and a name less", x.breaks(15, 3, 2), 0);
    Edges.due("a sale more and a name more", x.breaks(15, 2, 3), 1);
  }

  private static void breaksOfRent() {
    Edges.sentence("how many THINGS would have another AGE NOW, each in its own COUNTY, were it made");
    SoldYear x = new SoldYear();
    x.thing(20, 0, 10 * YEAR + 3);
    for (int i = 0; i < 15; i++) {
      x.pass(YEAR);
    }
    for (int name = 8; name <= 17; name++) {
      Edges.due("sold " + name, x.breaks(name, 0, 1), 0);
      Edges.due("bought " + name, x.breaks(name, 1, 0), name >= 10 && name < 15 ? 1 : 0);
    }
    Edges.due("ahead of its names, both of a NAME are behind", x.breaks(9, 1, 0), 0);
  }

  private static void breaksAreNotMade() {
    Edges.sentence("BREAKS of a SALE that isn't made");
    SoldYear x = Edges.rich();
    Edges.due("breaks", x.breaks(30, 0, 1), 1);
    Edges.due("least", x.least(0, 1), 56);
    Edges.due("breaks of the third", x.breaks(45, 0, 1), 2);
    Edges.same("nothing was made", x, Edges.rich());
    SoldYear y = new SoldYear();
    for (int i = 0; i < 5; i++) {
      y.sale(10 + i, 0, 1);
    }
    Edges.due("as the sixth", y.breaks(9, 0, 1), 0);
    Edges.due("least as the sixth", y.least(0, 1), 1);
    Edges.due("the sixth", y.sale(9, 0, 1), 5);
    Edges.due("no seventh", y.breaks(8, 0, 1), Checks.FULL);
    Edges.due("least of no seventh", y.least(0, 1), Checks.FULL);
  }

  /** Up to the last SALE that can be made. */
  private static void breaksBesideSales() {
    Edges.sentence("FULL: no SALE can be made any more.");
    for (int sales = 0; sales <= 6; sales++) {
      SoldYear x = new SoldYear();
      for (int i = 0; i < sales; i++) {
        x.sale(140 + i, 2, 3);
      }
      x.thing(10, 0, 10 * 365);
      x.thing(50, 1, 12 * 365);
      x.thing(20, 2, 12 * 365);
      for (int i = 0; i < 4; i++) {
        x.pass(9999);
      }
      Edges.due("sales " + sales + ", breaks", x.breaks(50, 0, 1), sales < 6 ? 1 : Checks.FULL);
      Edges.due("sales " + sales + ", breaks of rent", x.breaks(50, 3, 2), sales < 6 ? 1 : Checks.FULL);
      Edges.due("sales " + sales + ", least", x.least(0, 1), sales < 6 ? 1 : Checks.FULL);
      Edges.due("sales " + sales + ", made", x.sale(50, 0, 1), sales < 6 ? sales : Checks.FULL);
    }
  }

  private static void leastOfSixty() {
    Edges.sentence("LEAST from one COUNTY to another one: the NAME (1 .. 60) of those that can be SOLD by which BREAKS is "
        + "least; of several the least.");
    for (int year : new int[] {0, 1, 2, 58, 59, 60, 61, 62}) {
      SoldYear x = new SoldYear();
      x.thing(10, 0, 0);
      for (int i = 0; i < year; i++) {
        x.pass(YEAR);
      }
      // selling a NAME up to that of NOW makes the birth older; buying one below it makes it younger
      Edges.due("sold in year " + year, x.least(0, 1), year < 60 ? year + 1 : 1);
      Edges.due("bought in year " + year, x.least(1, 0), year == 0 ? 1 : year <= 60 ? year : 1);
      Edges.due("of others in year " + year, x.least(2, 3), 1);
    }
  }

  /** Wine is another one by each SALE that its COUNTY has part in. */
  private static void leastOfAll() {
    Edges.sentence("the NAME (1 .. 60) of those that can be SOLD by which BREAKS is least; of several the least");
    SoldYear x = new SoldYear();
    for (int i = 0; i < 10; i++) {
      x.thing(50, 0, 0);
    }
    for (int i = 0; i < 4; i++) {
      x.pass(9999);
    }
    Edges.due("the first breaks all", x.breaks(1, 0, 1), 10);
    Edges.due("the last, too", x.breaks(60, 0, 1), 10);
    Edges.due("each breaks all", x.least(0, 1), 1);
    x.set(9, 0, 0);
    Edges.due("each breaks all but one", x.least(0, 1), 1);
    Edges.due("bought: a name less and a sale more", x.breaks(60, 1, 0), 0);
    x.set(9, 0, 5);
    Edges.due("bought, each breaks none", x.least(1, 0), 1);
    for (int i = 0; i < 2; i++) {
      x.set(i, 2, 2);
    }
    Edges.due("of others", x.least(3, 2), 1);
  }

  private static void leastOfSold() {
    Edges.sentence("of those that can be SOLD");
    SoldYear x = new SoldYear();
    for (int i = 1; i <= 5; i++) {
      Edges.due("names below " + i + " are sold", x.least(0, 1), i);
      Edges.due("the other way", x.least(1, 0), i);
      Edges.due("one of them", x.least(1, 2), i);
      Edges.due("none of them", x.least(2, 3), 1);
      x.sale(i, i % 2, 1 - i % 2);
    }
    x.undo();
    x.undo();
    Edges.due("two can be sold anew", x.least(0, 1), 4);
  }

  private static void leastRefused() {
    Edges.sentence("LEAST. BEYOND: also one COUNTY twice. FULL. NONE: none can be SOLD.");
    for (int from = -1; from <= 4; from++) {
      for (int to = -1; to <= 4; to++) {
        int one = from;
        int other = to;
        if (from == to || from < 0 || from > 3 || to < 0 || to > 3) {
          Edges.refused("from " + from + " to " + to, Checks.BEYOND, x -> x.least(one, other));
        } else {
          Edges.due("from " + from + " to " + to, new SoldYear().least(from, to), 1);
        }
      }
    }
  }
}
