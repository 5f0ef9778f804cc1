/** The boundaries in promises 39 to 44: IMAGES, numbers that wait, what is counted and told. */
public final class ImagesEdgesTest {
  private static final int YEAR = 365;

  public static void main(String[] args) {
    howOften();
    inPlaceOfOneAhead();
    noImage();
    whichStays();
    allOfIt();
    fullOnes();
    lastOnesKept();
    emptyOnes();
    whatIsNotKept();
    waiting();
    waitingFull();
    checksOfNone();
    checksOfLacking();
    checksOfTooMany();
    checksOfDays();
    checksOfOrder();
    checksOfAll();
    checksAreNoErrors();
    whatIsCounted();
    countsAtTheirEnds();
    toldOnes();
    toldByEach();
    Checks.end("ImagesEdgesTest");
  }

  private static void howOften() {
    Edges.sentence("is kept as an IMAGE, in place of one ahead: how often that was done.");
    SoldYear x = new SoldYear();
    for (int i = 1; i <= 5; i++) {
      Edges.due("image " + i, x.image(), i);
      x.restore();
      x.restore();
    }
    Edges.due("no image counts it", x.image(), 6);
    Edges.due("of another object", new SoldYear().image(), 1);
  }

  private static void inPlaceOfOneAhead() {
    Edges.sentence("is kept as an IMAGE, in place of one ahead: how often that was done.");
    SoldYear x = new SoldYear();
    x.pass(1);
    x.image();
    x.pass(1);
    x.image();
    x.pass(1);
    Edges.due("the latest", x.restore(), 2);
    x.image();
    x.pass(9);
    Edges.due("the latest", x.restore(), 2);
    SoldYear y = Edges.rich();
    y.image();
    y.restore();
    y.restore();
    SoldYear z = Edges.rich();
    z.image();
    Edges.same("restored at once", y, z);
  }

  private static void noImage() {
    Edges.sentence("All is as the IMAGE has it, which stays: NOW. NONE: there is none.");
    Edges.refusedAnew("none", Checks.NONE, x -> 0, SoldYear::restore);
    Edges.refusedAnew("none, after much else", Checks.NONE, ImagesEdgesTest::much, SoldYear::restore);
    SoldYear x = new SoldYear();
    x.restore();
    Edges.due("told", x.told(2), 1);
    x.image();
    Edges.due("one", x.restore(), 0);
    Edges.due("told", x.told(2), 1);
  }

  private static long much(SoldYear x) {
    x.sale(41, 0, 1);
    x.thing(10, 0, 14600);
    x.paper(40, 30);
    x.pass(20000 / 4);
    x.comet(5, 5);
    x.seed(5);
    x.tell(40 * YEAR + 30);
    Checks.word(x, "a*2");
    Edges.fill(x, 0, 8, 1, 2, 3, 4);
    return 0;
  }

  private static void whichStays() {
    Edges.sentence("All is as the IMAGE has it, which stays: NOW.");
    SoldYear x = Edges.rich();
    SoldYear y = Edges.rich();
    x.restore();
    y.restore();
    x.sale(60, 0, 1);
    x.sale(61, 0, 1);
    x.set(0, 0, 6);
    x.set(1, 3, 0);
    x.thing(0, 0, 0);
    x.paper(9, 9);
    x.clerk();
    x.burn();
    x.burn();
    x.pass(1);
    x.comet(0, 1);
    x.untell(0);
    x.untell(1);
    x.text(0);
    x.feed(97, 1);
    x.check();
    x.tell(0);
    Edges.due("again", x.restore(), 19998);
    Edges.same("as the image has it", x, y);
  }

  private static void allOfIt() {
    Edges.sentence("All (but SHEETS, THE TRACE, what told() tells, and how often this was done) is kept as an IMAGE");
    Edges.Act[] changes = {
      x -> x.sale(60, 0, 1), SoldYear::undo, x -> x.pass(1), x -> x.thing(0, 0, 0), x -> x.set(0, 0, 4),
      x -> x.set(0, 1, 9), x -> x.set(0, 2, 3), x -> x.set(0, 3, 0), x -> x.feed(97, 1), x -> x.text(1), x -> x.text(0),
      x -> x.untell(0), x -> x.untell(1), x -> x.paper(9, 9), SoldYear::burn, SoldYear::clerk, x -> x.seed(9),
      x -> x.comet(0, 1), x -> x.papers(1), x -> x.tell(3), SoldYear::check, ImagesEdgesTest::sellOthers,
      ImagesEdgesTest::writeOthers, ImagesEdgesTest::tellOthers, ImagesEdgesTest::feedOthers, SoldYear::restore
    };
    for (int i = 0; i < changes.length; i++) {
      SoldYear x = Edges.rich();
      SoldYear y = Edges.rich();
      x.image();
      y.image();
      if (i < changes.length - 1) {
        changes[i].on(x);
      }
      Edges.due("change " + i, x.restore(), 20001);
      Edges.same("change " + i + " is gone", x, y);
    }
  }

  /** Others in the places of those that are in the IMAGE. */
  private static long sellOthers(SoldYear x) {
    x.undo();
    x.undo();
    x.undo();
    return x.sale(9, 3, 2) + x.sale(8, 1, 0) + x.sale(7, 3, 1);
  }

  private static long writeOthers(SoldYear x) {
    x.burn();
    x.burn();
    x.burn();
    return x.paper(40, 301) + x.paper(43, 99) + x.paper(45, 11);
  }

  private static long tellOthers(SoldYear x) {
    x.check();
    return x.tell(1) + x.tell(2) + x.tell(3);
  }

  private static long feedOthers(SoldYear x) {
    x.text(1);
    Checks.word(x, "9*9*9");
    return x.text(0) + Checks.word(x, "k-k-k");
  }

  private static void fullOnes() {
    Edges.sentence("All is as the IMAGE has it, which stays: NOW.");
    SoldYear x = new SoldYear();
    for (int i = 0; i < 6; i++) {
      x.sale(20 + i, 2, 3);
    }
    for (int i = 0; i < 10; i++) {
      x.thing(60 + i, i % 4, 1000 * i);
    }
    for (int i = 0; i < 8; i++) {
      x.paper(50 + i, i);
    }
    for (int i = 0; i < 24; i++) {
      x.tell(i);
    }
    for (int i = 0; i < 15; i++) {
      x.feed(0x2b392b39L, 4);
    }
    for (int i = 0; i < 7; i++) {
      x.pass(9999);
    }
    x.pass(3006);
    x.image();
    for (int i = 0; i < 6; i++) {
      x.undo();
      x.burn();
    }
    x.check();
    x.text(0);
    Edges.due("now", x.restore(), 72999);
    int[] due = {6, 10, 8, 72999, 60, 24};
    for (int what = 0; what < 6; what++) {
      Edges.due("count " + what, x.count(what), due[what]);
    }
    Edges.due("sale", x.sale(30, 0, 1), Checks.FULL);
    Edges.due("thing", x.thing(0, 0, 0), Checks.FULL);
    Edges.due("paper", x.paper(0, 0), Checks.FULL);
    Edges.due("feed", x.feed(0, 1), Checks.FULL);
    Edges.due("tell", x.tell(0), Checks.FULL);
    Edges.due("pass", x.pass(1), Checks.STATE);
    Edges.due("the last sale", x.saleIs(5, 0), 25);
    Edges.due("the last thing's m", x.thingIs(9, 1), 9);
    Edges.due("the last thing's day", x.thingIs(9, 3), 9000);
    Edges.due("the last paper", x.paperIs(7, 0), 57);
    Edges.due("the last paper's day", x.paperIs(7, 1), 7);
    Edges.due("the tape", x.text(0), -70);
  }

  /** What stands last in a full row is kept, too. */
  private static void lastOnesKept() {
    Edges.sentence("All is as the IMAGE has it, which stays: NOW.");
    SoldYear x = new SoldYear();
    for (int i = 0; i < 6; i++) {
      x.sale(20 + i, 2, 3);
    }
    for (int i = 0; i < 10; i++) {
      x.thing(10 + i, i % 4, 1000 * i);
    }
    for (int i = 0; i < 8; i++) {
      x.paper(50 + i, i);
    }
    Checks.feed(x, "1" + "+m".repeat(28) + "+10");
    x.image();
    x.undo();
    x.sale(5, 1, 0);
    int[] others = {4, 5, 3, 77};
    for (int what = 0; what < 4; what++) {
      x.set(9, what, others[what]);
    }
    x.burn();
    x.paper(99, 99);
    x.text(1);
    Checks.feed(x, "2" + "+m".repeat(28) + "+21");
    x.restore();
    Edges.due("the sixth sale's name", x.saleIs(5, 0), 25);
    Edges.due("from", x.saleIs(5, 1), 2);
    Edges.due("to", x.saleIs(5, 2), 3);
    Edges.due("what it does", x.name(2, 199) * 1000 + x.name(3, 199), 205193);
    int[] facts = {1, 9, 1, 9000};
    for (int what = 0; what < 4; what++) {
      Edges.due("of the tenth thing " + what, x.thingIs(9, what), facts[what]);
    }
    Edges.due("the eighth paper's name", x.paperIs(7, 0), 57);
    Edges.due("its day", x.paperIs(7, 1), 7);
    Edges.due("sixty bytes", x.text(1), 1);
    Edges.due("the last of them", x.thingIs(9, 5), 1 + 28 * 9 + 10);
  }

  private static void emptyOnes() {
    Edges.sentence("All is as the IMAGE has it, which stays: NOW.");
    SoldYear x = new SoldYear();
    SoldYear y = new SoldYear();
    x.image();
    y.image();
    x.sale(60, 0, 1);
    x.thing(0, 0, 0);
    x.paper(9, 9);
    x.pass(1);
    x.comet(0, 1);
    x.tell(5);
    x.seed(9);
    Checks.text(x, 0, "1");
    Checks.text(x, 1, "2");
    Checks.word(x, "33");
    Edges.due("now", x.restore(), 0);
    Edges.due("no text", x.untell(0), 0);
    Edges.due("no text", x.untell(1), 0);
    Edges.due("z", x.count(7), 1);
    Edges.same("as at first", x, y);
  }

  private static void whatIsNotKept() {
    Edges.sentence("(but SHEETS, THE TRACE, what told() tells, and how often this was done)");
    SoldYear x = Edges.rich();
    x.put(2, 1, 99);
    x.sheet(3, 16, 5);
    x.sheet(0, 0, 0);
    x.voice(3, 1, 0);
    x.name(4, 0);
    x.body(9);
    x.restore();
    Edges.due("a number", x.judge(2, 0, 1), 1);
    Edges.due("a sheet that came", x.put(3, 4, 0), 1);
    Edges.due("a sheet that went", x.put(0, 0, 0), Checks.NONE);
    Edges.due("the trace", x.body(0), 11);
    Edges.due("bodies", x.count(6), 2);
    Edges.due("told BEYOND", x.told(1), 2);
    Edges.due("told NONE", x.told(2), 3);
    Edges.due("told STATE", x.told(3), 1);
    Edges.due("how often", x.image(), 2);
  }

  private static void waiting() {
    Edges.sentence("One more number waits: how many. FULL: 24 wait.");
    int[] numbers = {Integer.MIN_VALUE, -1000000001, -1, 0, 1, 72999, 73000, Integer.MAX_VALUE};
    for (int v : numbers) {
      SoldYear x = new SoldYear();
      Edges.due("any number", x.tell(v), 1);
      Edges.due("one more", x.tell(v), 2);
      Edges.due("count", x.count(5), 2);
    }
  }

  private static long tellMany(SoldYear x) {
    for (int i = 3; i < 24; i++) {
      x.tell(i);
    }
    return 0;
  }

  private static void waitingFull() {
    Edges.sentence("FULL: 24 wait.");
    SoldYear x = new SoldYear();
    for (int i = 1; i <= 24; i++) {
      Edges.due("number " + i, x.tell(i), i);
      Edges.due("count", x.count(5), i);
    }
    Edges.due("a 25th", x.tell(25), Checks.FULL);
    Edges.due("a 26th", x.tell(26), Checks.FULL);
    Edges.due("count", x.count(5), 24);
    Edges.due("told", x.told(4), 2);
    Edges.refused("a 25th", Checks.FULL, ImagesEdgesTest::tellMany, y -> y.tell(0));
    Edges.due("all are too many", x.check(), 1);
    Edges.due("then there is room", x.tell(1), 1);
  }

  private static int checked(SoldYear x, int... days) {
    for (int day : days) {
      x.tell(day);
    }
    int answer = x.check();
    Edges.due("none wait then", x.count(5), 0);
    return answer;
  }

  private static void checksOfNone() {
    Edges.sentence("The numbers that wait (none do then) are DAYS of all PAPERS, in order, that are one of ROWS: 0");
    SoldYear x = new SoldYear();
    Edges.due("none, no papers", checked(x), 0);
    Edges.due("one too many", checked(x, 0), 1);
    x.paper(0, 0);
    Edges.due("one lacks", checked(x), 1);
    Edges.due("day 0", checked(x, 0), 0);
    Edges.due("one too many", checked(x, 0, 1), 2);
    x.burn();
    Edges.due("none, no papers", checked(x), 0);
  }

  private static SoldYear eight() {
    SoldYear x = new SoldYear();
    for (int i = 0; i < 8; i++) {
      x.paper(10 + i, i);
    }
    return x;
  }

  private static int[] days(int n) {
    int[] days = new int[n];
    for (int i = 0; i < n; i++) {
      days[i] = (10 + i) * YEAR + i;
    }
    return days;
  }

  private static void checksOfLacking() {
    Edges.sentence("else 1 and the place of the first that it MAY not be, or that isn't later than the one ahead (one that "
        + "lacks, or is too many, too).");
    for (int n = 0; n <= 7; n++) {
      Edges.due("number " + n + " lacks", checked(eight(), days(n)), 1 + n);
    }
    Edges.due("none lacks", checked(eight(), days(8)), 0);
  }

  private static void checksOfTooMany() {
    Edges.sentence("(one that lacks, or is too many, too)");
    for (int n = 9; n <= 24; n++) {
      Edges.due("numbers " + n, checked(eight(), days(n)), 9);
    }
    int[] days = days(24);
    days[7]++;
    Edges.due("a wrong one is ahead of those", checked(eight(), days), 8);
    days[0]--;
    Edges.due("the first is ahead of all", checked(eight(), days), 1);
  }

  private static void checksOfDays() {
    Edges.sentence("1 and the place of the first that it MAY not be");
    for (int place = 0; place < 8; place++) {
      for (int by : new int[] {-YEAR, -1, 1, YEAR}) {
        int[] days = days(8);
        days[place] += by;
        Edges.due("number " + place + " by " + by, checked(eight(), days), 1 + place);
      }
      for (int v : new int[] {Integer.MIN_VALUE, -1, 73000, Integer.MAX_VALUE}) {
        int[] days = days(8);
        days[place] = v;
        Edges.due("number " + place + " is " + v, checked(eight(), days), 1 + place);
      }
    }
    SoldYear x = new SoldYear();
    x.paper(199, 364);
    Edges.due("the last day", checked(x, 72999), 0);
    Edges.due("one less", checked(x, 72998), 1);
    Edges.due("one more", checked(x, 73000), 1);
    Edges.due("a year more", checked(x, 72999 + YEAR), 1);
    for (int name = 198; name <= 206; name++) {
      for (int of : new int[] {0, 5, 364}) {
        SoldYear z = new SoldYear();
        z.paper(name, of);
        Edges.due("name " + name + ", no year behind the last", checked(z, name * YEAR + of), name < 200 ? 0 : 1);
      }
    }
    twoOfOne();
    SoldYear y = new SoldYear();
    y.sale(41, 0, 1);
    y.paper(42, 9);
    // county 0: YEAR 41; 1: 43; the others: 42
    for (int year = 39; year <= 45; year++) {
      Edges.due("year " + year, checked(y, year * YEAR + 9), year >= 41 && year <= 43 ? 0 : 1);
    }
    y.burn();
    y.paper(206, 9);
    Edges.due("no day at all", checked(y, 42 * YEAR + 9), 1);
  }

  /** A COUNTY that has sold two names, to two others: what a PAPER may be isn't alike on both sides of its NAME. */
  private static void twoOfOne() {
    SoldYear x = new SoldYear();
    x.sale(41, 0, 1);
    x.sale(45, 0, 2);
    x.paper(46, 9);
    // county 0: YEAR 44; 1, 2: 47; 3: 46
    for (int year = 42; year <= 50; year++) {
      Edges.due("two sold, year " + year, checked(x, year * YEAR + 9), year == 44 || year == 46 || year == 47 ? 0 : 1);
    }
  }

  private static void checksOfOrder() {
    Edges.sentence("or that isn't later than the one ahead");
    for (int of = 99; of <= 101; of++) {
      SoldYear x = new SoldYear();
      x.sale(41, 0, 1);
      x.paper(41, 100);
      x.paper(41, of);
      int first = 41 * YEAR;
      int second = 42 * YEAR;
      Edges.due("in one year", checked(x, first + 100, first + of), of > 100 ? 0 : 2);
      Edges.due("in two years", checked(x, first + 100, second + of), 0);
      Edges.due("both in the second", checked(x, second + 100, second + of), of > 100 ? 0 : 2);
      Edges.due("the other way", checked(x, second + 100, first + of), 2);
    }
  }

  private static void checksOfAll() {
    Edges.sentence("are DAYS of all PAPERS, in order, that are one of ROWS: 0");
    SoldYear x = new SoldYear();
    x.sale(41, 0, 1);
    for (int i = 0; i < 3; i++) {
      x.paper(42, 10 * i);
    }
    int found = 0;
    for (int code = 0; code < 64; code++) {
      int a = 40 + (code & 3);
      int b = 40 + (code >> 2 & 3);
      int c = 40 + (code >> 4);
      SoldYear y = new SoldYear();
      y.sale(41, 0, 1);
      for (int i = 0; i < 3; i++) {
        y.paper(42, 10 * i);
      }
      found += checked(y, a * YEAR, b * YEAR + 10, c * YEAR + 20) == 0 ? 1 : 0;
    }
    Edges.due("as many are good as there are ROWS", found, x.rows());
    Edges.due("three of three years that don't go down", found, 10);
  }

  private static void checksAreNoErrors() {
    Edges.sentence("The numbers that wait (none do then)");
    SoldYear x = Edges.rich();
    SoldYear y = Edges.rich();
    Edges.due("the row that waits", x.check(), 0);
    Edges.due("none waits", x.count(5), 0);
    Edges.due("none is there", x.check(), 1);
    for (int k = 1; k <= 6; k++) {
      Edges.due("told " + k, x.told(k), y.told(k));
    }
    y.check();
    Edges.same("nothing else", x, y);
  }

  private static void whatIsCounted() {
    Edges.sentence("0 SALES, 1 THINGS, 2 PAPERS, 3 NOW, 4 bytes of THE TAPE, 5 numbers that wait, 6 BODIES in THE TRACE, 7 z "
        + "(any number), 8 WORTH of all THINGS NOW. BEYOND.");
    int[] due = {3, 4, 3, 20001, 5, 3, 4, 5, -15 - 2 - 38 - 50};
    Edges.within("count", 0, 8, SoldYear::count, v -> due[v]);
    for (int what = 0; what <= 8; what++) {
      Edges.due("count " + what, Edges.rich().count(what), due[what]);
    }
  }

  private static void countsAtTheirEnds() {
    Edges.sentence("8 WORTH of all THINGS NOW");
    SoldYear x = new SoldYear();
    Edges.due("no things", x.count(8), 0);
    Checks.text(x, 1, "9999");
    Edges.due("no things, a text", x.count(8), 0);
    for (int i = 1; i <= 10; i++) {
      x.thing(0, 0, 0);
      Edges.due("things " + i, x.count(8), i * 9999);
    }
    Checks.text(x, 1, "0-9999");
    Edges.due("the least", x.count(8), -99990);
    x.untell(1);
    Edges.due("without a text", x.count(8), 0);
    x.set(9, 1, 9);
    Edges.due("m", x.count(8), 9);
  }

  private static void toldOnes() {
    Edges.sentence("How many acts have answered an ERROR LOW - k (k 1 .. 6); BEYOND: another k (counted, too).");
    for (int k = 1; k <= 6; k++) {
      SoldYear x = new SoldYear();
      Edges.due("told " + k, x.told(k), 0);
      Edges.due("told " + k + " again", x.told(k), 0);
    }
    SoldYear x = new SoldYear();
    int count = 0;
    for (int k : new int[] {0, 7, -1, 8, Integer.MIN_VALUE, Integer.MAX_VALUE}) {
      Edges.due("told " + k, x.told(k), Checks.BEYOND);
      count++;
      Edges.due("counted, too", x.told(1), count);
      for (int other = 2; other <= 6; other++) {
        Edges.due("none of " + other, x.told(other), 0);
      }
      Edges.refused("told " + k, Checks.BEYOND, y -> y.told(k));
    }
    SoldYear y = new SoldYear();
    y.told(0);
    y.image();
    y.told(0);
    y.restore();
    Edges.due("no image keeps it", y.told(1), 2);
  }

  /** Each act that can answer an ERROR is counted, once a call. */
  private static void toldByEach() {
    Edges.sentence("How many acts have answered an ERROR LOW - k (k 1 .. 6)");
    Edges.Act[] beyond = {
      x -> x.sale(0, 0, 1), x -> x.saleIs(0, 0), x -> x.name(0, 200), x -> x.date(0, 73000), x -> x.day(0, 207, 0, 0),
      x -> x.pass(0), x -> x.thing(70, 0, 0), x -> x.thingIs(0, 0), x -> x.as(0, 0), x -> x.set(0, 0, 0),
      x -> x.age(0, 0, 0), x -> x.comes(0, 0, 1), x -> x.where(0, 1), x -> x.feed(0, 0), x -> x.text(2),
      x -> x.untell(2), x -> x.paper(207, 0), x -> x.paperIs(0, 0), x -> x.may(0, 0), x -> x.span(0, 0),
      x -> x.comet(0, 0), x -> x.claim(207), x -> x.breaks(0, 0, 1), x -> x.least(0, 0), x -> x.voice(0, 0, 0),
      x -> x.sheet(4, 8, 1), x -> x.put(4, 0, 0), x -> x.move(4, 0, 0, 0, 0), x -> x.papers(4), x -> x.judge(4, 0, 0),
      x -> x.count(9), x -> x.told(7)
    };
    SoldYear x = new SoldYear();
    for (int i = 0; i < beyond.length; i++) {
      Edges.due("act " + i, beyond[i].on(x), Checks.BEYOND);
      Edges.due("told", x.told(1), i + 1);
    }
    Edges.Act[] none = {
      y -> y.day(0, 200, 0, 0), y -> y.body(0), y -> y.put(0, 0, 0), y -> y.move(0, 0, 0, 0, 0), y -> y.papers(0),
      y -> y.judge(0, 0, 0), SoldYear::restore
    };
    for (int i = 0; i < none.length; i++) {
      Edges.due("act " + i, none[i].on(x), Checks.NONE);
      Edges.due("told", x.told(2), i + 1);
    }
    Edges.Act[] state = {SoldYear::undo, SoldYear::burn, y -> y.claim(0), y -> y.sheet(0, 8, -1)};
    for (int i = 0; i < state.length; i++) {
      Edges.due("act " + i, state[i].on(x), Checks.STATE);
      Edges.due("told", x.told(3), i + 1);
    }
    for (int k = 4; k <= 6; k++) {
      Edges.due("told " + k, x.told(k), 0);
    }
    Edges.due("told BEYOND still", x.told(1), beyond.length);
    Edges.due("told NONE still", x.told(2), none.length);
    Edges.same("nothing else is another", x, new SoldYear());
  }
}
