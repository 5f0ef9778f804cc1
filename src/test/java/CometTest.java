/** Promises 28 to 31: a comet and who claims it, what another sale would break. */
public final class CometTest {
  public static void main(String[] args) {
    seen();
    claims();
    breaking();
    breakRefusals();
    least();
    Checks.end("CometTest");
  }

  private static void seen() {
    SoldYear x = new SoldYear();
    Checks.due("each year", x.comet(0, 1), 200);
    Checks.due("the last day", x.comet(72999, 99), 1);
    Checks.due("twice at the edge", x.comet(364, 99), 3);
    Checks.due("once more", x.comet(365 + 364, 99), 3);
    Checks.due("not any more", x.comet(2 * 365, 99), 2);
    x.comet(365, 1);
    Checks.due("each year from the first on", x.claim(2), 15);
    Checks.due("not ahead of it", x.claim(0), 0);
    x.comet(0, 1);
    Checks.due("day -1", x.comet(-1, 1), Checks.BEYOND);
    Checks.due("day 73000", x.comet(73000, 1), Checks.BEYOND);
    Checks.due("p 0", x.comet(0, 0), Checks.BEYOND);
    Checks.due("p 100", x.comet(0, 100), Checks.BEYOND);
    Checks.due("p -1", x.comet(0, -1), Checks.BEYOND);
    Checks.due("the one ahead stays", x.claim(2), 15);
  }

  private static void claims() {
    SoldYear x = new SoldYear();
    Checks.due("no comet", x.claim(10), Checks.STATE);
    Checks.due("BEYOND ahead of STATE", x.claim(207), Checks.BEYOND);
    Checks.due("name -1", x.claim(-1), Checks.BEYOND);
    x.comet(10 * 365 + 8, 10);
    Checks.due("all", x.claim(20), 15);
    Checks.due("not yet", x.claim(0), 0);
    Checks.due("none", x.claim(21), 0);
    x.sale(15, 0, 1);
    x.sale(30, 2, 3);
    Checks.due("20 is year 19 in 0, 21 in 1", x.claim(20), 12);
    Checks.due("21 is year 20 in 0", x.claim(21), 1);
    Checks.due("19 is year 20 in 1", x.claim(19), 2);
    Checks.due("30 is year 29, 31, none, 30 and 31", x.claim(30), 8);
    Checks.due("31 is year 30 in 0 and 2", x.claim(31), 5);
    Checks.due("a later one, in all", x.claim(200), 0);
    x.comet(199 * 365, 5);
    Checks.due("the greatest name", x.claim(200), 5);
    Checks.due("206", x.claim(206), 0);
    Checks.due("the one ahead is gone", x.claim(21), 0);
  }

  private static void breaking() {
    SoldYear x = new SoldYear();
    x.thing(10, 0, 3650);
    x.thing(0, 0, 3650);
    x.thing(10, 1, 3650);
    x.thing(10, 2, 3650);
    x.thing(50, 3, 3650);
    x.thing(60, 1, 3650);
    x.thing(20, 1, 3650);
    x.pass(7300);
    Checks.due("birth of 0 and 1, rent of 1", x.breaks(15, 0, 1), 3);
    Checks.due("birth of 1, told by the book", x.breaks(15, 1, 0), 3);
    Checks.due("wine has part in any", x.breaks(100, 0, 3), 1);
    Checks.due("nothing", x.breaks(100, 0, 1), 0);
    Checks.due("the year of the day itself is left out", x.breaks(20, 1, 2), 2);
    Checks.due("nothing was made", x.count(0), 0);
    Checks.due("nothing was made", x.name(0, 15), 15);
    x.sale(15, 1, 0);
    Checks.due("behind another one", x.breaks(16, 0, 1), 4);
    Checks.due("nothing was undone", x.count(0), 1);
    Checks.due("nothing was undone", x.saleIs(0, 0), 15);
  }

  private static void breakRefusals() {
    SoldYear x = new SoldYear();
    x.sale(7, 0, 1);
    Checks.due("name 0", x.breaks(0, 0, 1), Checks.BEYOND);
    Checks.due("name 151", x.breaks(151, 0, 1), Checks.BEYOND);
    Checks.due("name 150", x.breaks(150, 0, 1), 0);
    Checks.due("from 4", x.breaks(1, 4, 1), Checks.BEYOND);
    Checks.due("to -1", x.breaks(1, 0, -1), Checks.BEYOND);
    Checks.due("one county", x.breaks(7, 1, 1), Checks.BEYOND);
    Checks.due("sold", x.breaks(7, 0, 2), Checks.STATE);
    Checks.due("bought", x.breaks(7, 2, 1), Checks.STATE);
    for (int i = 0; i < 5; i++) {
      x.sale(20 + i, 2, 3);
    }
    Checks.due("full", x.breaks(1, 0, 1), Checks.FULL);
    Checks.due("STATE ahead of FULL", x.breaks(7, 0, 1), Checks.STATE);
    Checks.due("BEYOND ahead of FULL", x.breaks(0, 0, 1), Checks.BEYOND);
  }

  private static void leastOfSixty() {
    SoldYear x = new SoldYear();
    x.thing(10, 0, 0);
    for (int i = 0; i < 60; i++) {
      Checks.due("a name that breaks none, to 60, after " + i, x.least(0, 1), i + 1);
      x.pass(365);
    }
    Checks.due("61 isn't looked at", x.least(0, 1), 1);
  }

  private static void least() {
    SoldYear x = new SoldYear();
    Checks.due("of several the least", x.least(0, 1), 1);
    x.thing(10, 0, 0);
    x.pass(3650);
    // names 1 to 10 break, as the year of NOW has another name then
    Checks.due("the first that breaks none", x.least(0, 1), 11);
    Checks.due("bought by 0: 10 itself stays", x.least(1, 0), 10);
    x.sale(11, 0, 2);
    x.sale(10, 3, 1);
    Checks.due("11 can't be sold", x.least(0, 1), 12);
    Checks.due("10 can't be sold", x.least(1, 0), 12);
    for (int i = 0; i < 6; i++) {
      x.pass(9999);
    }
    Checks.due("all break one", x.least(0, 1), 1);
    leastOfSixty();
    Checks.due("from -1", x.least(-1, 0), Checks.BEYOND);
    Checks.due("to 4", x.least(0, 4), Checks.BEYOND);
    Checks.due("one twice", x.least(3, 3), Checks.BEYOND);
    for (int i = 0; i < 4; i++) {
      x.sale(70 + i, 2, 3);
    }
    Checks.due("full", x.least(0, 1), Checks.FULL);
    Checks.due("BEYOND ahead of FULL", x.least(1, 1), Checks.BEYOND);
    Checks.due("sold still", x.count(0), 6);
  }
}
