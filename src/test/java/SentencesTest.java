/** The sentences of the document that none of the EdgesTests quotes, in their order. */
public final class SentencesTest {
  private static final int YEAR = 365;

  public static void main(String[] args) {
    longs();
    namesInOrder();
    soldAndBought();
    numbersOfSales();
    book();
    births();
    toldOnes();
    numbersOfThings();
    refusedYears();
    copiesByNumbers();
    firstDraws();
    voicesByNumber();
    deeds();
    birthsBodies();
    rents();
    heirs();
    wine();
    toldBodies();
    nextAbove();
    bitsOfSheets();
    refusedPapers();
    Checks.end("SentencesTest");
  }

  private static void longs() {
    Edges.sentence("LOW - 6 PARTED (in longs, too)");
    SoldYear x = new SoldYear();
    for (int i = 0; i < 8; i++) {
      x.paper(40, 0);
      Edges.due("rows of like papers", x.rows(), i == 0 ? 1 : 0);
    }
    for (int k = 1; k <= 6; k++) {
      Edges.due("rows() has no errors", x.told(k), 0);
    }
  }

  private static void namesInOrder() {
    Edges.sentence("COUNTIES 0 .. 3 give each YEAR a NAME, in order, from 0 on");
    SoldYear x = new SoldYear();
    x.sale(3, 0, 1);
    x.sale(1, 0, 1);
    x.sale(2, 1, 0);
    int[] sold = {0, 2, 2, 4, 5};
    int[] bought = {0, 1, 1, 3, 3};
    for (int year = 0; year < 5; year++) {
      Edges.due("of county 0, year " + year, x.name(0, year), sold[year]);
      Edges.due("of county 1, year " + year, x.name(1, year), bought[year]);
      Edges.due("of county 2, year " + year, x.name(2, year), year);
    }
    for (int county = 0; county < 4; county++) {
      Edges.due("the first, of county " + county, x.name(county, 0), 0);
    }
  }

  private static void soldAndBought() {
    Edges.sentence("the one has SOLD it, the other one BOUGHT it");
    SoldYear x = new SoldYear();
    x.sale(9, 2, 3);
    Edges.due("from one that hasn't it any more", x.day(2, 9, 0, 0), Checks.NONE);
    Edges.due("to one that has it once", x.day(3, 9, 0, 0), 9 * YEAR);
    Edges.due("and once more", x.day(3, 9, 0, 1), 10 * YEAR);
    Edges.due("others have it once", x.day(0, 9, 0, 0), 9 * YEAR);
    Edges.due("others have it once", x.day(0, 9, 0, 1), Checks.NONE);
  }

  private static void numbersOfSales() {
    Edges.sentence("A SALE: its number. BEYOND: also from and to are one.");
    SoldYear x = new SoldYear();
    for (int i = 0; i < 6; i++) {
      Edges.due("one and the same", x.sale(70 - i, i % 4, i % 4), Checks.BEYOND);
      Edges.due("sale " + i, x.sale(70 - i, i % 4, (i + 1) % 4), i);
      Edges.due("its name", x.saleIs(i, 0), 70 - i);
    }
    Edges.sentence("STATE: the one has SOLD or BOUGHT that NAME, or the other one has. FULL.");
    Edges.due("a seventh", x.sale(64, 0, 1), Checks.FULL);
    x.undo();
    Edges.due("the sixth once more", x.sale(64, 0, 1), 5);
  }

  private static void book() {
    Edges.sentence("b: the NAME of the DAY in that COUNTY less the NAME of the one on which it BEGAN in its own");
    SoldYear x = new SoldYear();
    x.sale(10, 0, 1);
    x.sale(30, 0, 1);
    x.thing(60, 0, 20 * YEAR);
    x.thing(60, 1, 20 * YEAR);
    Checks.text(x, 0, "b");
    // county 0 gives YEARS 20, 40 the NAMES 21, 42; county 1 gives them 19, 38; the others 20, 40
    int[] own = {21, 19};
    int[] there = {42, 38, 40, 40};
    for (int thing = 0; thing < 2; thing++) {
      for (int county = 0; county < 4; county++) {
        Edges.due(thing + " in " + county, x.age(thing, county, 40 * YEAR), there[county] - own[thing]);
      }
    }
  }

  private static void births() {
    Edges.sentence("BIRTH: b. ");
    SoldYear x = new SoldYear();
    x.sale(30, 0, 1);
    x.thing(19, 0, 20 * YEAR + 7);
    Edges.due("by the sky 20 years", x.age(0, 0, 40 * YEAR + 7), 21);
    Edges.due("its m doesn't matter", x.age(0, 2, 40 * YEAR + 7), 20);
    Edges.due("nor does another sale", x.age(0, 1, 40 * YEAR + 7), 19);
  }

  private static void toldOnes() {
    Edges.sentence("TOLD: what AGES gives.");
    SoldYear x = new SoldYear();
    x.sale(30, 0, 1);
    x.thing(64, 0, 20 * YEAR);
    Edges.due("without a text", x.age(0, 0, 40 * YEAR), 21);
    Checks.text(x, 0, "b*10+t+m");
    Edges.due("by the text", x.age(0, 0, 40 * YEAR), 234);
    Checks.text(x, 0, "(b-t)*400+m");
    Edges.due("by another one", x.age(0, 0, 40 * YEAR), 404);
    Edges.due("by the same, elsewhere: below 0", x.age(0, 1, 40 * YEAR), 0);
    x.untell(0);
    Edges.due("without a text again", x.age(0, 1, 40 * YEAR), 20);
  }

  private static void numbersOfThings() {
    Edges.sentence("A THING: its number.");
    SoldYear x = new SoldYear();
    for (int i = 0; i < 10; i++) {
      Edges.due("no number is lost", x.thing(70, 0, 0), Checks.BEYOND);
      Edges.due("thing " + i, x.thing(7 * i, i % 4, 10 * i), i);
      Edges.due("its day", x.thingIs(i, 3), 10 * i);
    }
    Edges.due("an eleventh", x.thing(0, 0, 0), Checks.FULL);
  }

  private static void refusedYears() {
    Edges.sentence("COMES. BEYOND. NONE: not by DAY 72999.");
    SoldYear x = new SoldYear();
    x.thing(0, 0, 72999 - 2 * YEAR);
    Edges.due("one year", x.comes(0, 0, 1), 72999 - YEAR);
    Edges.due("two years, the last day of the sky", x.comes(0, 0, 2), 72999);
    Edges.due("three", x.comes(0, 0, 3), Checks.NONE);
    Edges.due("none", x.comes(0, 0, 0), Checks.BEYOND);
    Edges.due("a hundred", x.comes(0, 0, 100), Checks.BEYOND);
    Edges.due("no county", x.comes(0, 4, 3), Checks.BEYOND);
    Edges.due("no thing", x.comes(1, 0, 3), Checks.BEYOND);
  }

  /** Each PAPER has the draw of its number, and papers that go leave no draw behind. */
  private static void copiesByNumbers() {
    Edges.sentence("A CLERK copies all PAPERS by numbers: a draw each");
    for (int n = 1; n <= 8; n++) {
      SoldYear x = new SoldYear();
      for (int i = 0; i < n; i++) {
        x.paper(100, i);
      }
      int z = 31 * n + 4;
      x.seed(z);
      int others = 0;
      int[] due = new int[n];
      for (int i = 0; i < n; i++) {
        z = z * 1103515245 + 12345;
        int rest = (z >>> 8) % 8;
        due[i] = rest == 0 ? 101 : rest == 1 ? 99 : 100;
        others += due[i] == 100 ? 0 : 1;
      }
      Edges.due("others of " + n, x.clerk(), others);
      Edges.due("draws", x.count(7), z);
      for (int i = 0; i < n; i++) {
        Edges.due("paper " + i, x.paperIs(i, 0), due[i]);
        Edges.due("its day of the year", x.paperIs(i, 1), i);
      }
    }
  }

  private static void firstDraws() {
    Edges.sentence("DRAWS: z is told (1 at first)");
    SoldYear x = new SoldYear();
    Edges.due("at first", x.count(7), 1);
    x.clerk();
    Edges.due("nothing was drawn", x.count(7), 1);
    x.paper(100, 0);
    x.clerk();
    Edges.due("one draw", x.count(7), 1103515245 + 12345);
    Edges.due("told", x.seed(1), 1103515245 + 12345);
    Edges.due("again as at first", x.count(7), 1);
  }

  /** A thing of that KIND and m whose number is 3. */
  private static SoldYear fourth(int kind, int m) {
    SoldYear x = new SoldYear();
    for (int i = 0; i < 3; i++) {
      x.thing(0, 0, 0);
    }
    x.thing(kind * 10 + m, 0, 0);
    return x;
  }

  private static void voiceIs(int kind, int m, int voice, int of, int due, int... bodies) {
    SoldYear x = fourth(kind, m);
    String call = "kind " + kind + ", m " + m + ", voice " + voice + " of " + of;
    Edges.due(call, x.voice(3, voice, of), due);
    Edges.due(call + ", bodies", x.count(6), bodies.length);
    for (int i = 0; i < bodies.length; i++) {
      Edges.due(call + ", body " + i, x.body(i), bodies[i]);
    }
  }

  private static void voicesByNumber() {
    Edges.sentence("0 dates, 1 ages, 2 dues, 3 parts.");
    for (int voice = 0; voice < 4; voice++) {
      SoldYear x = fourth(0, 5);
      x.voice(3, voice, 8);
      Edges.due("voice " + voice, x.body(0), 10 + voice);
    }
  }

  private static void deeds() {
    Edges.sentence("DEED: 10 dates: x + k. 11 ages: dates(x) * 2. 12 dues: ages(x) - m.");
    for (int v : new int[] {-9, 0, 8}) {
      voiceIs(0, 5, 0, v, v + 3, 10);
      voiceIs(0, 5, 1, v, (v + 3) * 2, 11, 10);
      voiceIs(0, 5, 2, v, (v + 3) * 2 - 5, 12, 11, 10);
      voiceIs(0, 5, 3, v, v / 2, 13);
    }
  }

  private static void birthsBodies() {
    Edges.sentence("BIRTH: 20 dates: super.dates(x) - 7. 21 parts: super.parts(x) + ages(1).");
    for (int v : new int[] {-9, 0, 8}) {
      voiceIs(1, 5, 0, v, v + 3 - 7, 20, 10);
      voiceIs(1, 5, 1, v, (v + 3 - 7) * 2, 11, 20, 10);
      voiceIs(1, 5, 2, v, (v + 3 - 7) * 2 - 5, 12, 11, 20, 10);
      voiceIs(1, 5, 3, v, v / 2 + (1 + 3 - 7) * 2, 21, 13, 11, 20, 10);
    }
  }

  private static void rents() {
    Edges.sentence("RENT: 30 ages: 0 - super.ages(x).");
    for (int v : new int[] {-9, 0, 8}) {
      voiceIs(2, 5, 1, v, -((v + 3) * 2), 30, 11, 10);
      voiceIs(2, 5, 2, v, -((v + 3) * 2) - 5, 12, 30, 11, 10);
      voiceIs(3, 5, 2, v, (v / 2 + 3) * 2 - 5, 40, 12, 11, 10);
    }
  }

  private static void heirs() {
    Edges.sentence("HEIR: 50 dates: super.dates(x) * 3. 51 dues: super.dues(x) ^ k.");
    for (int v : new int[] {-9, 0, 8}) {
      voiceIs(4, 5, 0, v, (v + 3 - 7) * 3, 50, 20, 10);
      voiceIs(4, 5, 1, v, (v + 3 - 7) * 3 * 2, 11, 50, 20, 10);
      voiceIs(4, 5, 2, v, ((v + 3 - 7) * 3 * 2 - 5) ^ 3, 51, 12, 11, 50, 20, 10);
      voiceIs(4, 5, 3, v, v / 2 + (1 + 3 - 7) * 3 * 2, 21, 13, 11, 50, 20, 10);
    }
  }

  private static void wine() {
    Edges.sentence("WINE: 60 ages: super.ages(x + 1).");
    for (int v : new int[] {-9, 0, 8}) {
      voiceIs(5, 5, 0, v, v + 3 - 7, 20, 10);
      voiceIs(5, 5, 1, v, (v + 1 + 3 - 7) * 2, 60, 11, 20, 10);
      voiceIs(5, 5, 2, v, (v + 1 + 3 - 7) * 2 - 5, 12, 60, 11, 20, 10);
      voiceIs(5, 5, 3, v, v / 2 + (1 + 1 + 3 - 7) * 2, 21, 13, 60, 11, 20, 10);
    }
  }

  private static void toldBodies() {
    Edges.sentence("TOLD: 70 dates: 4. 71 ages: super.ages(x) + m.");
    for (int v : new int[] {-9, 0, 8}) {
      voiceIs(6, 5, 0, v, 4, 70);
      voiceIs(6, 5, 1, v, 4 * 2 + 5, 71, 11, 70);
      voiceIs(6, 5, 2, v, 4 * 2 + 5 - 5, 12, 71, 11, 70);
      voiceIs(6, 5, 3, v, v / 2, 13);
    }
  }

  private static void nextAbove() {
    Edges.sentence("dates(..) is the BODY of its KIND, or of the next KIND above that has one; super.dates(..) that from the "
        + "KIND above the BODY's on.");
    // the KIND's own, the next one's, the one's above that
    voiceIs(4, 0, 0, 1, (1 + 3 - 7) * 3, 50, 20, 10);
    voiceIs(5, 0, 0, 1, 1 + 3 - 7, 20, 10);
    voiceIs(4, 0, 1, 1, (1 + 3 - 7) * 3 * 2, 11, 50, 20, 10);
    voiceIs(3, 0, 0, 1, 1 + 3, 10);
    SoldYear x = fourth(3, 1);
    Edges.due("a term's dues", x.voice(3, 2, 9), (4 + 3) * 2 - 1);
    x.set(3, 0, 5);
    Edges.due("it is wine now", x.voice(3, 2, 9), (10 + 3 - 7) * 2 - 1);
    Edges.due("its second body", x.body(1), 60);
  }

  private static void bitsOfSheets() {
    Edges.sentence("A SHEET has n numbers, all 0, of so many bits (8, 16, 32; 0: it is missing, n doesn't matter): 1.");
    for (int bits = -1; bits <= 33; bits++) {
      SoldYear x = new SoldYear();
      boolean good = bits == 0 || bits == 8 || bits == 16 || bits == 32;
      Edges.due("bits " + bits, x.sheet(1, bits, 3), good ? 1 : Checks.BEYOND);
      Edges.due("a number of it", x.put(1, 2, 9), good && bits > 0 ? 1 : Checks.NONE);
      Edges.due("none more", x.put(1, 3, 9), good && bits > 0 ? Checks.BEYOND : Checks.NONE);
      Edges.due("all 0, up to the one that was put", x.judge(1, 0, 0), good && bits > 0 ? 1 : Checks.NONE);
    }
    for (int n : new int[] {Integer.MIN_VALUE, -1, 0, 24, 25, Integer.MAX_VALUE}) {
      SoldYear x = new SoldYear();
      x.sheet(1, 8, 3);
      Edges.due("missing, n " + n, x.sheet(1, 0, n), 1);
      Edges.due("it is", x.put(1, 0, 0), Checks.NONE);
    }
  }

  private static void refusedPapers() {
    Edges.sentence("up to the first that paper() would refuse, or that isn't whole (no ERROR then). BEYOND. NONE.");
    SoldYear x = new SoldYear();
    Edges.due("no sheet", x.papers(-1), Checks.BEYOND);
    Edges.due("no sheet", x.papers(4), Checks.BEYOND);
    Edges.due("a missing one", x.papers(3), Checks.NONE);
    Edges.fill(x, 3, 16, 206, 364, 207, 0, 5, 5);
    Edges.due("one, up to a name that is none", x.papers(3), 1);
    Edges.due("it came", x.paperIs(0, 0), 206);
    Edges.due("no more did", x.count(2), 1);
    Edges.fill(x, 3, 32, 0, 0, 1, 1, 2);
    Edges.due("two, up to one that isn't whole", x.papers(3), 2);
    Edges.due("told", x.told(1), 2);
    Edges.due("told", x.told(2), 1);
    Edges.due("told", x.told(4), 0);
  }
}
