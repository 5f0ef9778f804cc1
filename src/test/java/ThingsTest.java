/** Promises 9 to 16: things, their ages, when they come of age. */
public final class ThingsTest {
  public static void main(String[] args) {
    making();
    telling();
    asKinds();
    setting();
    ages();
    agesByBook();
    agesOfNames();
    coming();
    comingWithTexts();
    wheres();
    twins();
    Checks.end("ThingsTest");
  }

  private static void making() {
    SoldYear x = new SoldYear();
    Checks.due("km -1", x.thing(-1, 0, 0), Checks.BEYOND);
    Checks.due("km 70", x.thing(70, 0, 0), Checks.BEYOND);
    Checks.due("county 4", x.thing(0, 4, 0), Checks.BEYOND);
    Checks.due("county -1", x.thing(0, -1, 0), Checks.BEYOND);
    Checks.due("day -1", x.thing(0, 0, -1), Checks.BEYOND);
    Checks.due("day 73000", x.thing(0, 0, 73000), Checks.BEYOND);
    Checks.due("none yet", x.count(1), 0);
    for (int i = 0; i < 10; i++) {
      Checks.due("thing " + i, x.thing(i == 9 ? 69 : i, 3, 72999), i);
    }
    Checks.due("an eleventh", x.thing(0, 0, 0), Checks.FULL);
    Checks.due("BEYOND ahead of FULL", x.thing(70, 0, 0), Checks.BEYOND);
    Checks.due("ten", x.count(1), 10);
    Checks.due("kind", x.thingIs(9, 0), 6);
    Checks.due("m", x.thingIs(9, 1), 9);
    Checks.due("county", x.thingIs(9, 2), 3);
    Checks.due("began", x.thingIs(9, 3), 72999);
  }

  private static void telling() {
    SoldYear x = new SoldYear();
    x.thing(4, 2, 365);
    Checks.due("ahead of it", x.thingIs(0, 4), 0);
    Checks.due("worth ahead of it", x.thingIs(0, 5), 4);
    x.pass(365 * 3 + 364);
    Checks.due("age", x.thingIs(0, 4), 2);
    Checks.due("worth", x.thingIs(0, 5), 24);
    Checks.due("worth of all", x.count(8), 24);
    x.thing(11, 2, 0);
    Checks.due("worth of two", x.count(8), 24 + 31);
    Checks.due("what 6", x.thingIs(0, 6), Checks.BEYOND);
    Checks.due("what -1", x.thingIs(0, -1), Checks.BEYOND);
    Checks.due("no such thing", x.thingIs(2, 0), Checks.BEYOND);
    Checks.due("thing -1", x.thingIs(-1, 0), Checks.BEYOND);
  }

  private static void asKinds() {
    int[] above = {-1, 0, 0, 0, 1, 1, 0};
    SoldYear x = new SoldYear();
    for (int own = 0; own < 7; own++) {
      x.thing(own * 10, 0, own + 5);
      for (int kind = 0; kind < 7; kind++) {
        boolean is = kind == 0 || kind == own || above[own] == kind;
        Checks.due(own + " as " + kind, x.as(own, kind), is ? own + 5 : Checks.KIND);
      }
    }
    Checks.due("kind 7", x.as(0, 7), Checks.BEYOND);
    Checks.due("kind -1", x.as(0, -1), Checks.BEYOND);
    Checks.due("no such thing", x.as(7, 0), Checks.BEYOND);
    Checks.due("thing -1", x.as(-1, 0), Checks.BEYOND);
    Checks.due("told KIND", x.told(5), 6 + 5 + 5 + 5 + 4 + 4 + 5);
  }

  private static void setting() {
    SoldYear x = new SoldYear();
    x.thing(23, 1, 100);
    Checks.due("kind", x.set(0, 0, 6), 2);
    Checks.due("m", x.set(0, 1, 9), 3);
    Checks.due("county", x.set(0, 2, 3), 1);
    Checks.due("began", x.set(0, 3, 72999), 100);
    int[] now = {6, 9, 3, 72999};
    int[] bounds = {7, 10, 4, 73000};
    for (int what = 0; what < 4; what++) {
      Checks.due("v too great " + what, x.set(0, what, bounds[what]), Checks.BEYOND);
      Checks.due("v -1 " + what, x.set(0, what, -1), Checks.BEYOND);
      Checks.due("stays " + what, x.thingIs(0, what), now[what]);
      Checks.due("v 0 " + what, x.set(0, what, 0), now[what]);
    }
    Checks.due("what 4", x.set(0, 4, 0), Checks.BEYOND);
    Checks.due("what -1", x.set(0, -1, 0), Checks.BEYOND);
    Checks.due("no such thing", x.set(1, 0, 0), Checks.BEYOND);
    Checks.due("thing -1", x.set(-1, 0, 0), Checks.BEYOND);
  }

  /** All KINDS without sales: began in YEAR 10 on day 5 of it. */
  private static void ages() {
    SoldYear x = new SoldYear();
    int began = 3655;
    for (int kind = 0; kind < 7; kind++) {
      x.thing(kind * 10 + 3, 0, began);
    }
    int[] dayBefore20 = {9, 9, 10, 12, 6, 9, 9};
    int[] day20 = {10, 10, 10, 13, 7, 10, 10};
    int[] first = {0, 0, 0, 3, 0, 0, 0};
    for (int kind = 0; kind < 7; kind++) {
      Checks.due("ahead, kind " + kind, x.age(kind, 0, began - 1), 0);
      Checks.due("on the day, kind " + kind, x.age(kind, 0, began), first[kind]);
      Checks.due("a day less, kind " + kind, x.age(kind, 1, 20 * 365 + 4), dayBefore20[kind]);
      Checks.due("ten years, kind " + kind, x.age(kind, 2, 20 * 365 + 5), day20[kind]);
    }
    Checks.due("no such thing", x.age(7, 0, 0), Checks.BEYOND);
    Checks.due("thing -1", x.age(-1, 0, 0), Checks.BEYOND);
    Checks.due("county 4", x.age(0, 4, 0), Checks.BEYOND);
    Checks.due("county -1", x.age(0, -1, 0), Checks.BEYOND);
    Checks.due("day -1", x.age(0, 0, -1), Checks.BEYOND);
    Checks.due("day 73000", x.age(0, 0, 73000), Checks.BEYOND);
    Checks.due("last day", x.age(0, 0, 72999), 189);
  }

  private static void agesByBook() {
    SoldYear x = new SoldYear();
    x.thing(10, 0, 3650);
    x.thing(42, 0, 3650);
    x.thing(52, 1, 3650);
    x.thing(60, 0, 3650);
    x.sale(15, 0, 1);
    x.sale(90, 1, 2);
    Checks.due("birth, the seller's book", x.age(0, 0, 7300), 11);
    Checks.due("birth, the buyer's book", x.age(0, 1, 7300), 9);
    Checks.due("birth, another's book", x.age(0, 3, 7300), 10);
    Checks.due("heir", x.age(1, 0, 7300), 9);
    Checks.due("wine, sales that the county has part in", x.age(2, 1, 7300), 9 + 2);
    Checks.due("wine, the seller's", x.age(2, 0, 7300), 11 + 1);
    Checks.due("wine, none", x.age(2, 3, 7300), 10);
    Checks.due("wine ahead of its day", x.age(2, 1, 3649), 0);
    Checks.due("told: the greater one is by the book", x.age(3, 0, 7300), 11);
    Checks.due("told: the greater one is by the sky", x.age(3, 1, 7300), 10);
    x.sale(5, 3, 2);
    x.set(0, 2, 3);
    Checks.due("0 at least: a book behind the own one", x.age(0, 2, 3650), 0);
    Checks.due("and then two years less", x.age(0, 2, 7300), 8);
    Checks.due("heir 0 at least", x.age(1, 0, 4000), 0);
  }

  private static void agesOfNames() {
    SoldYear x = new SoldYear();
    x.thing(20, 0, 40 * 365 + 300);
    x.sale(41, 0, 1);
    x.sale(44, 1, 0);
    int[] seller = {0, 1, 2, 3, 3, 4};
    int[] buyer = {0, 1, 1, 2, 3, 4};
    for (int i = 0; i < seller.length; i++) {
      Checks.due("rent by 0, year " + i, x.age(0, 0, (40 + i) * 365 + (i == 0 ? 300 : 0)), seller[i]);
      Checks.due("rent by 1, year " + i, x.age(0, 1, (40 + i) * 365 + 364), buyer[i]);
      Checks.due("rent by 2, year " + i, x.age(0, 2, (40 + i) * 365 + 364), i);
    }
    Checks.due("ahead", x.age(0, 0, 40 * 365 + 299), 0);
  }

  private static void coming() {
    SoldYear x = new SoldYear();
    x.thing(0, 0, 3655);
    x.thing(10, 0, 3655);
    x.thing(20, 0, 3655);
    x.thing(37, 0, 3655);
    x.sale(15, 0, 1);
    Checks.due("deed", x.comes(0, 0, 5), 15 * 365 + 5);
    Checks.due("birth, the seller's", x.comes(1, 0, 6), 15 * 365 + 5);
    Checks.due("birth a year of which is lost", x.comes(1, 0, 5), 15 * 365);
    Checks.due("birth, the buyer's", x.comes(1, 1, 6), 17 * 365 + 5);
    Checks.due("birth, the buyer's, before it goes down", x.comes(1, 1, 5), 15 * 365 + 5);
    Checks.due("it goes down", x.age(1, 1, 16 * 365 + 4), 4);
    Checks.due("rent, the first of a year", x.comes(2, 0, 1), 11 * 365);
    Checks.due("term, at once", x.comes(3, 0, 7), 3655);
    Checks.due("term", x.comes(3, 0, 8), 11 * 365 + 5);
    Checks.due("99 years", x.comes(0, 3, 99), 109 * 365 + 5);
    x.set(3, 3, 0);
    Checks.due("on day 0", x.comes(3, 0, 7), 0);
    Checks.due("on day 0", x.where(3, 7), 0);
    x.set(0, 3, 199 * 365);
    Checks.due("never", x.comes(0, 0, 1), Checks.NONE);
    x.set(0, 3, 198 * 365 + 364);
    Checks.due("the last day", x.comes(0, 0, 1), 72999);
    Checks.due("years 0", x.comes(0, 0, 0), Checks.BEYOND);
    Checks.due("years 100", x.comes(0, 0, 100), Checks.BEYOND);
    Checks.due("county 4", x.comes(0, 4, 1), Checks.BEYOND);
    Checks.due("county -1", x.comes(0, -1, 1), Checks.BEYOND);
    Checks.due("no such thing", x.comes(4, 0, 1), Checks.BEYOND);
    Checks.due("thing -1", x.comes(-1, 0, 1), Checks.BEYOND);
    Checks.due("told NONE once", x.told(2), 1);
  }

  private static void comingWithTexts() {
    SoldYear x = new SoldYear();
    x.thing(62, 0, 3655);
    Checks.text(x, 0, "(b=3)*50-(t>9)");
    Checks.due("for a while only", x.comes(0, 0, 50), 13 * 365 + 5);
    Checks.due("never", x.comes(0, 0, 51), Checks.NONE);
    Checks.text(x, 0, "7");
    Checks.due("at once", x.comes(0, 0, 7), 3655);
    Checks.due("ahead of it 0", x.age(0, 0, 3654), 0);
  }

  private static void wheres() {
    SoldYear x = new SoldYear();
    x.thing(10, 1, 3655);
    Checks.due("everywhere: the least", x.where(0, 20), 0);
    x.sale(15, 1, 0);
    Checks.due("the seller's", x.where(0, 20), 1);
    Checks.due("ahead of the sale the least", x.where(0, 4), 0);
    Checks.due("years 0", x.where(0, 0), Checks.BEYOND);
    Checks.due("years 100", x.where(0, 100), Checks.BEYOND);
    Checks.due("no such thing", x.where(1, 1), Checks.BEYOND);
    Checks.due("thing -1", x.where(-1, 1), Checks.BEYOND);
    x.set(0, 3, 190 * 365);
    Checks.due("nowhere", x.where(0, 11), Checks.NONE);
    Checks.due("told NONE once", x.told(2), 1);
    x.sale(20, 3, 2);
    x.set(0, 2, 0);
    Checks.due("in one only", x.where(0, 10 + 1), 1);
  }

  private static void twins() {
    SoldYear x = new SoldYear();
    x.sale(41, 0, 1);
    x.thing(10, 1, 41 * 365 + 7);
    x.thing(10, 1, 41 * 365 + 7);
    Checks.due("of one day", x.twins(), 0);
    x.thing(40, 1, 42 * 365 + 7);
    Checks.due("two pairs", x.twins(), 2);
    x.thing(50, 1, 42 * 365 + 7);
    Checks.due("four pairs", x.twins(), 4);
    x.thing(60, 1, 42 * 365 + 7);
    x.thing(0, 1, 42 * 365 + 7);
    x.thing(10, 2, 42 * 365 + 7);
    x.thing(10, 1, 42 * 365 + 8);
    x.thing(10, 0, 41 * 365 + 7);
    x.thing(10, 0, 42 * 365 + 7);
    Checks.due("no others", x.twins(), 4);
    x.set(3, 0, 2);
    Checks.due("rent is no birth", x.twins(), 2);
    x.undo();
    Checks.due("unlike dates", x.twins(), 0);
  }
}
