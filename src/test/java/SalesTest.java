/** Promises 1 to 8: a new object, sales, names, dates. */
public final class SalesTest {
  public static void main(String[] args) {
    newObject();
    sales();
    saleRefusals();
    undone();
    names();
    runsOfNames();
    dates();
    days();
    passing();
    Checks.end("SalesTest");
  }

  private static void newObject() {
    SoldYear x = new SoldYear();
    for (int what = 0; what <= 6; what++) {
      Checks.due("new count " + what, x.count(what), 0);
    }
    Checks.due("new z", x.count(7), 1);
    Checks.due("new worth", x.count(8), 0);
    Checks.due("new rows", x.rows(), 1);
    Checks.due("new check", x.check(), 0);
    Checks.due("new claim", x.claim(0), Checks.STATE);
    Checks.due("new body", x.body(0), Checks.NONE);
    Checks.due("new restore", x.restore(), Checks.NONE);
    Checks.due("new sheet", x.put(0, 0, 0), Checks.NONE);
    Checks.due("new image", x.image(), 1);
    Checks.due("new untell", x.untell(0) + x.untell(1), 0);
    Checks.due("another object is as at first", new SoldYear().told(2), 0);
  }

  private static void sales() {
    SoldYear x = new SoldYear();
    Checks.due("least name", x.sale(1, 0, 1), 0);
    Checks.due("greatest name", x.sale(150, 3, 2), 1);
    Checks.due("the name between others", x.sale(1, 2, 3), 2);
    Checks.due("sale 0 name", x.saleIs(0, 0), 1);
    Checks.due("sale 0 from", x.saleIs(0, 1), 0);
    Checks.due("sale 0 to", x.saleIs(0, 2), 1);
    Checks.due("sale 1 name", x.saleIs(1, 0), 150);
    Checks.due("sale 1 from", x.saleIs(1, 1), 3);
    Checks.due("sale 1 to", x.saleIs(1, 2), 2);
    Checks.due("no such sale", x.saleIs(3, 0), Checks.BEYOND);
    Checks.due("sale -1", x.saleIs(-1, 0), Checks.BEYOND);
    Checks.due("what 3", x.saleIs(0, 3), Checks.BEYOND);
    Checks.due("what -1", x.saleIs(0, -1), Checks.BEYOND);
    Checks.due("count", x.count(0), 3);
  }

  private static void saleRefusals() {
    SoldYear x = new SoldYear();
    x.sale(7, 0, 1);
    Checks.due("name 0", x.sale(0, 0, 1), Checks.BEYOND);
    Checks.due("name 151", x.sale(151, 0, 1), Checks.BEYOND);
    Checks.due("from -1", x.sale(8, -1, 1), Checks.BEYOND);
    Checks.due("from 4", x.sale(8, 4, 1), Checks.BEYOND);
    Checks.due("to -1", x.sale(8, 0, -1), Checks.BEYOND);
    Checks.due("to 4", x.sale(8, 0, 4), Checks.BEYOND);
    Checks.due("from is to, ahead of STATE", x.sale(7, 0, 0), Checks.BEYOND);
    Checks.due("the one has sold", x.sale(7, 0, 2), Checks.STATE);
    Checks.due("the one has bought", x.sale(7, 1, 2), Checks.STATE);
    Checks.due("the other has sold", x.sale(7, 2, 0), Checks.STATE);
    Checks.due("the other has bought", x.sale(7, 2, 1), Checks.STATE);
    for (int i = 1; i < 6; i++) {
      Checks.due("sale " + i, x.sale(20 + i, 2, 3), i);
    }
    Checks.due("a seventh", x.sale(60, 2, 3), Checks.FULL);
    Checks.due("STATE ahead of FULL", x.sale(7, 0, 1), Checks.STATE);
    Checks.due("BEYOND ahead of FULL", x.sale(0, 0, 1), Checks.BEYOND);
    Checks.due("still six", x.count(0), 6);
    Checks.due("told BEYOND", x.told(1), 8);
    Checks.due("told STATE", x.told(3), 5);
    Checks.due("told FULL", x.told(4), 1);
  }

  private static void undone() {
    SoldYear x = new SoldYear();
    Checks.due("undo of none", x.undo(), Checks.STATE);
    x.sale(50, 0, 1);
    x.sale(40, 0, 1);
    x.sale(45, 0, 1);
    Checks.due("undo", x.undo(), 2);
    Checks.due("the others stand", x.name(0, 50), 52);
    Checks.due("and the name between is back", x.name(0, 45), 46);
    Checks.due("undo", x.undo(), 1);
    Checks.due("the first stands", x.name(0, 50), 51);
    Checks.due("sold anew", x.sale(40, 1, 0), 1);
    Checks.due("undo", x.undo(), 1);
    Checks.due("undo", x.undo(), 0);
    Checks.due("undo of none", x.undo(), Checks.STATE);
    Checks.due("as at first", x.name(0, 50), 50);
  }

  private static void names() {
    SoldYear x = new SoldYear();
    Checks.due("first", x.name(3, 0), 0);
    Checks.due("last", x.name(3, 199), 199);
    x.sale(41, 0, 1);
    Checks.due("ahead of the sold one", x.name(0, 40), 40);
    Checks.due("the sold one is left out", x.name(0, 41), 42);
    Checks.due("last of the one", x.name(0, 199), 200);
    Checks.due("the bought one", x.name(1, 41), 41);
    Checks.due("the bought one again", x.name(1, 42), 41);
    Checks.due("behind it", x.name(1, 43), 42);
    Checks.due("last of the other", x.name(1, 199), 198);
    Checks.due("a third", x.name(2, 41), 41);
    Checks.due("year -1", x.name(0, -1), Checks.BEYOND);
    Checks.due("year 200", x.name(0, 200), Checks.BEYOND);
    Checks.due("county -1", x.name(-1, 0), Checks.BEYOND);
    Checks.due("county 4", x.name(4, 0), Checks.BEYOND);
  }

  private static void runsOfNames() {
    SoldYear x = new SoldYear();
    // made out of order: what a year is called doesn't hang on that
    x.sale(43, 0, 1);
    x.sale(41, 0, 1);
    x.sale(42, 1, 0);
    int[] zero = {40, 42, 42, 44, 45};
    int[] one = {40, 41, 41, 43, 43, 44};
    for (int i = 0; i < zero.length; i++) {
      Checks.due("county 0, year " + (40 + i), x.name(0, 40 + i), zero[i]);
    }
    for (int i = 0; i < one.length; i++) {
      Checks.due("county 1, year " + (40 + i), x.name(1, 40 + i), one[i]);
    }
    SoldYear z = new SoldYear();
    int[] sold = {10, 50, 40, 30, 60, 20};
    for (int name : sold) {
      z.sale(name, 0, 1);
    }
    int[] years = {9, 10, 18, 19, 27, 28, 36, 37, 45, 46, 54, 55, 56};
    int[] called = {9, 11, 19, 21, 29, 31, 39, 41, 49, 51, 59, 61, 62};
    for (int i = 0; i < years.length; i++) {
      Checks.due("six of them, made out of order, year " + years[i], z.name(0, years[i]), called[i]);
    }
    Checks.due("the buyer's", z.name(1, 31), 29);
    Checks.due("the buyer's", z.name(1, 32), 30);
    Checks.due("the buyer's", z.name(1, 33), 30);
    Checks.due("the buyer's", z.name(1, 34), 31);
    SoldYear y = new SoldYear();
    for (int i = 0; i < 6; i++) {
      y.sale(1 + i, 2, 3);
    }
    Checks.due("six left out", y.name(2, 1), 7);
    Checks.due("the greatest name", y.name(2, 199), 205);
    Checks.due("six twice", y.name(3, 12), 6);
    Checks.due("and on", y.name(3, 13), 7);
    Checks.due("last", y.name(3, 199), 193);
  }

  private static void dates() {
    SoldYear x = new SoldYear();
    Checks.due("first day", x.date(0, 0), 0);
    Checks.due("last of a year", x.date(0, 364), 364);
    Checks.due("first of the next", x.date(0, 365), 1000);
    x.sale(41, 0, 1);
    Checks.due("left out", x.date(0, 41 * 365 + 9), 42009);
    Checks.due("twice", x.date(1, 42 * 365 + 9), 41009);
    Checks.due("last day", x.date(0, 72999), 200364);
    Checks.due("day -1", x.date(0, -1), Checks.BEYOND);
    Checks.due("day 73000", x.date(0, 73000), Checks.BEYOND);
    Checks.due("county 4", x.date(4, 0), Checks.BEYOND);
    Checks.due("county -1", x.date(-1, 0), Checks.BEYOND);
  }

  private static void days() {
    SoldYear x = new SoldYear();
    x.sale(41, 0, 1);
    Checks.due("once", x.day(0, 42, 3, 0), 41 * 365 + 3);
    Checks.due("once only", x.day(0, 42, 3, 1), Checks.NONE);
    Checks.due("sold", x.day(0, 41, 3, 0), Checks.NONE);
    Checks.due("sold, the second one", x.day(0, 41, 3, 1), Checks.NONE);
    Checks.due("first of two", x.day(1, 41, 3, 0), 41 * 365 + 3);
    Checks.due("second of two", x.day(1, 41, 3, 1), 42 * 365 + 3);
    Checks.due("name 0", x.day(2, 0, 0, 0), 0);
    Checks.due("name 0 once only", x.day(2, 0, 0, 1), Checks.NONE);
    Checks.due("name 199", x.day(2, 199, 364, 0), 72999);
    Checks.due("name 200", x.day(2, 200, 0, 0), Checks.NONE);
    Checks.due("name 200 there", x.day(0, 200, 0, 0), 199 * 365);
    Checks.due("name 199 nowhere", x.day(1, 199, 0, 0), Checks.NONE);
    Checks.due("name 206", x.day(0, 206, 0, 0), Checks.NONE);
    Checks.due("name 207", x.day(0, 207, 0, 0), Checks.BEYOND);
    Checks.due("name -1", x.day(0, -1, 0, 0), Checks.BEYOND);
    Checks.due("of 365", x.day(0, 1, 365, 0), Checks.BEYOND);
    Checks.due("of -1", x.day(0, 1, -1, 0), Checks.BEYOND);
    Checks.due("i 2", x.day(0, 1, 0, 2), Checks.BEYOND);
    Checks.due("i -1", x.day(0, 1, 0, -1), Checks.BEYOND);
    Checks.due("county 4", x.day(4, 1, 0, 0), Checks.BEYOND);
    Checks.due("county -1", x.day(-1, 1, 0, 0), Checks.BEYOND);
  }

  private static void passing() {
    SoldYear x = new SoldYear();
    Checks.due("n 0", x.pass(0), Checks.BEYOND);
    Checks.due("n -1", x.pass(-1), Checks.BEYOND);
    Checks.due("n 10000", x.pass(10000), Checks.BEYOND);
    Checks.due("a greatest n", x.pass(Integer.MAX_VALUE), Checks.BEYOND);
    Checks.due("n 1", x.pass(1), 1);
    for (int i = 1; i <= 7; i++) {
      Checks.due("n 9999", x.pass(9999), 1 + 9999 * i);
    }
    Checks.due("above the last day", x.pass(3006), Checks.STATE);
    Checks.due("stays", x.count(3), 69994);
    Checks.due("the last day", x.pass(3005), 72999);
    Checks.due("no day more", x.pass(1), Checks.STATE);
  }
}
