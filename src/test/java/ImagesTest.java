/** Promises 39 to 44: images, numbers that wait, what is counted and told. */
public final class ImagesTest {
  public static void main(String[] args) {
    images();
    imageOfAll();
    whatIsNotKept();
    telling();
    checking();
    counting();
    toldErrors();
    Checks.end("ImagesTest");
  }

  private static void images() {
    SoldYear x = new SoldYear();
    Checks.due("none", x.restore(), Checks.NONE);
    Checks.due("first", x.image(), 1);
    x.pass(5);
    Checks.due("in place of it", x.image(), 2);
    x.pass(6);
    Checks.due("now", x.restore(), 5);
    x.pass(7);
    Checks.due("it stays", x.restore(), 5);
    Checks.due("how often stays", x.image(), 3);
  }

  private static void imageOfAll() {
    SoldYear x = new SoldYear();
    x.sale(41, 0, 1);
    x.sale(40, 0, 1);
    x.thing(63, 0, 365);
    x.paper(42, 7);
    x.pass(3650);
    x.comet(3650, 9);
    x.seed(99);
    x.tell(1);
    x.tell(2);
    Checks.text(x, 0, "b+100");
    Checks.text(x, 1, "a*2");
    Checks.feed(x, "a+k");
    x.image();
    x.undo();
    x.undo();
    x.sale(60, 2, 3);
    x.set(0, 0, 1);
    x.thing(0, 0, 0);
    x.burn();
    x.paper(3, 3);
    x.paper(4, 4);
    x.pass(1);
    x.comet(0, 1);
    x.seed(5);
    x.check();
    x.tell(9);
    x.text(1);
    x.untell(1);
    Checks.due("another text", Checks.text(x, 0, "1"), 1);
    Checks.feed(x, "!!!!");
    Checks.due("now", x.restore(), 3650);
    int[] counts = {2, 1, 1, 3650, 3, 2, 0, 99, 218};
    for (int what = 0; what < counts.length; what++) {
      Checks.due("count " + what, x.count(what), counts[what]);
    }
    Checks.due("sale", x.saleIs(1, 0), 40);
    Checks.due("names", x.name(0, 40), 42);
    Checks.due("kind", x.thingIs(0, 0), 6);
    Checks.due("age", x.thingIs(0, 4), 109);
    Checks.due("from", x.saleIs(0, 1), 0);
    Checks.due("to", x.saleIs(0, 2), 1);
    Checks.due("paper", x.paperIs(0, 0), 42);
    Checks.due("day of the year", x.paperIs(0, 1), 7);
    Checks.due("comet", x.claim(10), 15);
    Checks.due("comet", x.claim(11), 0);
    Checks.due("the tape", x.text(1), 1);
    Checks.due("the numbers that wait", x.tell(3), 3);
    Checks.due("undo", x.undo(), 1);
    Checks.due("undo", x.name(0, 40), 40);
    x.restore();
    Checks.due("again", x.count(0), 2);
    Checks.due("again", x.count(4), 3);
    Checks.due("two wait, and one paper is there", x.check(), 1);
    Checks.due("the first number", checked(x, 44 * 365 + 7, 2), 2);
    x.tell(44 * 365 + 7);
    x.image();
    x.check();
    x.tell(5);
    x.restore();
    Checks.due("the numbers that wait, themselves", x.check(), 0);
  }

  private static void whatIsNotKept() {
    SoldYear x = new SoldYear();
    x.thing(0, 0, 0);
    x.sheet(0, 8, 1);
    x.image();
    x.voice(0, 2, 5);
    x.put(0, 0, 77);
    x.sheet(1, 8, 1);
    x.undo();
    x.restore();
    Checks.due("the trace", x.count(6), 3);
    Checks.due("a number of a sheet", x.judge(0, 0, 77), 1);
    Checks.due("a sheet", x.put(1, 0, 0), 1);
    Checks.due("what is told", x.told(3), 1);
    SoldYear y = new SoldYear();
    y.image();
    y.comet(0, 1);
    Checks.text(y, 0, "1");
    y.restore();
    Checks.due("no comet", y.claim(0), Checks.STATE);
    Checks.due("no text", y.untell(0), 0);
  }

  private static void telling() {
    SoldYear x = new SoldYear();
    for (int i = 1; i <= 24; i++) {
      Checks.due("one more", x.tell(Integer.MIN_VALUE + i), i);
    }
    Checks.due("a 25th", x.tell(0), Checks.FULL);
    Checks.due("24 wait", x.count(5), 24);
    Checks.due("too many", x.check(), 1);
    Checks.due("none do then", x.count(5), 0);
    Checks.due("none", x.check(), 0);
  }

  private static int checked(SoldYear x, int... days) {
    for (int day : days) {
      x.tell(day);
    }
    return x.check();
  }

  private static void checking() {
    SoldYear x = new SoldYear();
    x.sale(41, 0, 1);
    x.paper(41, 7);
    x.paper(41, 7);
    x.paper(50, 0);
    int a = 41 * 365 + 7;
    int b = 42 * 365 + 7;
    Checks.due("one of rows", checked(x, a, b, 50 * 365), 0);
    Checks.due("none wait", x.count(5), 0);
    Checks.due("another day of the paper", checked(x, a, b, 51 * 365), 0);
    Checks.due("none", checked(x), 1);
    Checks.due("the second lacks", checked(x, a), 2);
    Checks.due("the third lacks", checked(x, a, b), 3);
    Checks.due("a fourth", checked(x, a, b, 50 * 365, 60 * 365), 4);
    Checks.due("the first may not be", checked(x, a + 1, b, 50 * 365), 1);
    Checks.due("nor that", checked(x, a - 365 * 2, b, 50 * 365), 1);
    Checks.due("not later", checked(x, a, a, 50 * 365), 2);
    Checks.due("ahead", checked(x, b, a, 50 * 365), 2);
    Checks.due("below 0", checked(x, -1), 1);
    Checks.due("beyond the sky", checked(x, 73000 + 7), 1);
    Checks.due("far above", checked(x, a, Integer.MAX_VALUE), 2);
    Checks.due("far below", checked(x, Integer.MIN_VALUE), 1);
    Checks.due("no errors", x.told(1), 0);
  }

  private static void counting() {
    SoldYear x = new SoldYear();
    Checks.due("what -1", x.count(-1), Checks.BEYOND);
    Checks.due("what 9", x.count(9), Checks.BEYOND);
    x.sale(1, 0, 1);
    x.thing(5, 0, 0);
    x.thing(16, 0, 0);
    x.paper(1, 1);
    x.paper(1, 1);
    x.paper(1, 1);
    x.pass(400);
    x.feed(0, 5);
    x.tell(4);
    x.voice(0, 2, 0);
    x.seed(Checks.BEYOND);
    int[] due = {1, 2, 3, 400, 5, 1, 3, Checks.BEYOND, 15 + 26};
    for (int what = 0; what < due.length; what++) {
      Checks.due("count " + what, x.count(what), due[what]);
    }
    Checks.due("z is no error", x.told(1), 2);
  }

  private static void toldErrors() {
    SoldYear x = new SoldYear();
    for (int k = 1; k <= 6; k++) {
      Checks.due("told " + k, x.told(k), 0);
    }
    Checks.due("told 0", x.told(0), Checks.BEYOND);
    Checks.due("counted, too", x.told(1), 1);
    Checks.due("told 7", x.told(7), Checks.BEYOND);
    Checks.due("told -1", x.told(-1), Checks.BEYOND);
    Checks.due("told", x.told(1), 3);
    x.body(0);
    x.undo();
    x.undo();
    x.thing(0, 0, 0);
    x.as(0, 1);
    x.voice(0, 3, 1);
    for (int i = 0; i < 25; i++) {
      x.tell(i);
    }
    int[] due = {3, 1, 2, 1, 1, 1};
    for (int k = 1; k <= 6; k++) {
      Checks.due("told " + k, x.told(k), due[k - 1]);
    }
  }
}
