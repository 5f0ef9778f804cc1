/** The boundaries in promises 9 to 16 and in what the terms say of THINGS, AGE, COMES, WHERE and TWINS. */
public final class ThingsEdgesTest {
  private static final int YEAR = 365;

  public static void main(String[] args) {
    kindsAndNumbers();
    daysOfBeginning();
    tenThings();
    orderOfErrors();
    whatOfThings();
    worthAtBothEnds();
    asKinds();
    settings();
    settingsOfEach();
    daysOfAge();
    ageRefused();
    aheadOfBeginning();
    daysCut();
    birthdays();
    noLessThanNone();
    rentAtYearsEnds();
    rentOfTradedNames();
    rentOfNeighbours();
    termsAndHeirs();
    wines();
    greaterOfBoth();
    yearsOfComing();
    comingAtOnce();
    comingAtLast();
    comingOfEachKind();
    comingByLeaps();
    comingBackwards();
    nowhere();
    leastCounty();
    twinsOfDates();
    twinsInAnyOrder();
    howManyTwins();
    twinsOfKinds();
    Checks.end("ThingsEdgesTest");
  }

  private static void kindsAndNumbers() {
    Edges.sentence("km: 10 times the KIND, and m. BEYOND. FULL.");
    Edges.within("thing", 0, 69, (x, v) -> x.thing(v, 0, 0), v -> 4);
    Edges.sentence("each with a number m (0 .. 9)");
    for (int km : new int[] {0, 1, 8, 9, 10, 11, 59, 60, 68, 69}) {
      SoldYear x = new SoldYear();
      Edges.due("km " + km, x.thing(km, 1, 2), 0);
      Edges.due("kind of km " + km, x.thingIs(0, 0), km / 10);
      Edges.due("m of km " + km, x.thingIs(0, 1), km % 10);
      Edges.due("county of km " + km, x.thingIs(0, 2), 1);
      Edges.due("began of km " + km, x.thingIs(0, 3), 2);
    }
  }

  private static void daysOfBeginning() {
    Edges.sentence("of a COUNTY, from a DAY on (it BEGAN)");
    Edges.within("thing", 0, 72999, (x, v) -> x.thing(5, 2, v), v -> 4);
    for (int day : new int[] {0, 1, 72998, 72999}) {
      SoldYear x = new SoldYear();
      x.thing(0, 3, day);
      Edges.due("began", x.thingIs(0, 3), day);
      Edges.due("as a deed", x.as(0, 0), day);
    }
  }

  private static long makeSix(SoldYear x) {
    for (int i = 4; i < 10; i++) {
      x.thing(i * 6, i % 4, i * 1000);
    }
    return 0;
  }

  private static void tenThings() {
    Edges.sentence("THINGS 0, 1, .. (at most 10)");
    SoldYear x = new SoldYear();
    for (int i = 0; i < 10; i++) {
      Edges.due("there is no thing " + i, x.thingIs(i, 0), Checks.BEYOND);
      Edges.due("thing " + i, x.thing(i, 0, i), i);
      Edges.due("there it is " + i, x.thingIs(i, 1), i);
      Edges.due("how many", x.count(1), i + 1);
    }
    Edges.due("an eleventh", x.thing(0, 0, 0), Checks.FULL);
    Edges.due("there is none", x.thingIs(10, 0), Checks.BEYOND);
    Edges.refused("an eleventh", Checks.FULL, ThingsEdgesTest::makeSix, y -> y.thing(69, 3, 72999));
    SoldYear z = Edges.rich();
    makeSix(z);
    z.restore();
    Edges.due("three again", z.thing(0, 0, 0), 3);
  }

  private static void orderOfErrors() {
    Edges.sentence("Each act tells its ERRORS in the order in which they are asked");
    Edges.refused("BEYOND of km ahead of FULL", Checks.BEYOND, ThingsEdgesTest::makeSix, x -> x.thing(70, 0, 0));
    Edges.refused("BEYOND of county ahead of FULL", Checks.BEYOND, ThingsEdgesTest::makeSix, x -> x.thing(0, 4, 0));
    Edges.refused("BEYOND of day ahead of FULL", Checks.BEYOND, ThingsEdgesTest::makeSix, x -> x.thing(0, 0, 73000));
    Edges.refused("as: BEYOND of the kind", Checks.BEYOND, x -> x.as(3, 7));
    Edges.refused("as: BEYOND of the thing ahead of KIND", Checks.BEYOND, x -> x.as(4, 6));
    Edges.refused("comes: BEYOND ahead of NONE", Checks.BEYOND, ThingsEdgesTest::makeLate, x -> x.comes(4, 0, 100));
    Edges.refused("comes: BEYOND ahead of NONE", Checks.BEYOND, ThingsEdgesTest::makeLate, x -> x.comes(4, 4, 99));
    Edges.refused("where: BEYOND ahead of NONE", Checks.BEYOND, ThingsEdgesTest::makeLate, x -> x.where(4, 100));
  }

  /** THING 4 becomes one year old on no DAY. */
  private static long makeLate(SoldYear x) {
    return x.thing(0, 0, 72635);
  }

  private static void whatOfThings() {
    Edges.sentence("Of a THING: 0 KIND, 1 m, 2 COUNTY, 3 the DAY on which it BEGAN, 4 AGE NOW in its own COUNTY, 5 its "
        + "WORTH by that. BEYOND.");
    // a deed of YEAR 0, and its WORTH by "m-a"
    int[] facts = {0, 4, 3, 100, 54, -50};
    Edges.within("what", 0, 5, (x, v) -> x.thingIs(3, v), v -> facts[v]);
    int[] kinds = {1, 6, 2, 0};
    Edges.within("thing", 0, 3, (x, v) -> x.thingIs(v, 0), v -> kinds[v]);
    Edges.refusedAnew("no thing", Checks.BEYOND, x -> 0, x -> x.thingIs(0, 0));
    Edges.refused("one that is gone", Checks.BEYOND, SoldYear::restore, x -> x.thingIs(3, 0));
    Edges.due("the last one that isn't", Edges.rich().restore(), 19998);
    SoldYear x = new SoldYear();
    x.sale(10, 1, 0);
    x.thing(10, 0, 5 * YEAR);
    x.thing(10, 1, 5 * YEAR);
    for (int i = 0; i < 12; i++) {
      x.pass(YEAR);
    }
    Edges.due("its own county's, which has bought", x.thingIs(0, 4), 6);
    Edges.due("its own county's, which has sold", x.thingIs(1, 4), 8);
  }

  private static void worthAtBothEnds() {
    Edges.sentence("without a TEXT a*10+m");
    for (int m : new int[] {0, 1, 8, 9}) {
      SoldYear x = new SoldYear();
      x.thing(m, 0, YEAR);
      x.pass(YEAR - 1);
      Edges.due("the day ahead, m " + m, x.thingIs(0, 5), m);
      x.pass(YEAR);
      Edges.due("a day less than a year, m " + m, x.thingIs(0, 5), m);
      x.pass(1);
      Edges.due("a year, m " + m, x.thingIs(0, 5), 10 + m);
      Edges.due("all, m " + m, x.count(8), 10 + m);
    }
  }

  private static void asKinds() {
    Edges.sentence("A THING as one of a KIND: the DAY on which it BEGAN. BEYOND. KIND: it is not of that KIND, nor of one "
        + "under it.");
    Edges.within("thing", 0, 3, (x, v) -> x.as(v, 0), v -> v == 0 ? 14600 : v == 3 ? 100 : v == 2 ? 3650 : 14965);
    Edges.within("kind", 0, 6, (x, v) -> x.as(1, v), v -> v == 0 || v == 6 ? 14965 : Checks.KIND);
    Edges.sentence("of KINDS: 0 DEED, 1 BIRTH under DEED, 2 RENT under DEED, 3 TERM under DEED, 4 HEIR under BIRTH, 5 WINE "
        + "under BIRTH, 6 TOLD under DEED");
    String[] under = {"0", "01", "02", "03", "014", "015", "06"};
    for (int own = 0; own < 7; own++) {
      for (int kind = 0; kind < 7; kind++) {
        int one = own;
        int other = kind;
        if (under[own].indexOf('0' + kind) < 0) {
          Edges.refused(own + " as " + kind, Checks.KIND, x -> x.thing(one * 10, 1, 77), x -> x.as(4, other));
        } else {
          SoldYear x = Edges.rich();
          x.thing(own * 10, 1, 77);
          Edges.due(own + " as " + kind, x.as(4, kind), 77);
        }
      }
    }
  }

  private static void settings() {
    Edges.sentence("KIND (what 0), m (1), COUNTY (2), the DAY on which it BEGAN (3) of a THING becomes v: what it was. "
        + "BEYOND.");
    int[] were = {2, 5, 2, 3650};
    int[] most = {6, 9, 3, 72999};
    Edges.within("what", 0, 3, (x, v) -> x.set(2, v, 0), v -> were[v]);
    Edges.within("thing", 0, 3, (x, v) -> x.set(v, 1, 9), v -> v == 0 ? 0 : v == 1 ? 3 : v == 2 ? 5 : 4);
    for (int what = 0; what < 4; what++) {
      int fact = what;
      Edges.within("v of " + what, 0, most[what], (x, v) -> x.set(2, fact, v), v -> were[fact]);
      for (int v : new int[] {0, 1, most[what] - 1, most[what]}) {
        SoldYear x = Edges.rich();
        x.set(2, what, v);
        for (int other = 0; other < 4; other++) {
          Edges.due("what " + other + " then", x.thingIs(2, other), other == what ? v : were[other]);
        }
        Edges.due("set back", x.set(2, what, were[what]), v);
        Edges.same("all is as it was", x, Edges.rich());
      }
    }
  }

  private static void settingsOfEach() {
    Edges.sentence("KIND (what 0), m (1), COUNTY (2), the DAY on which it BEGAN (3) of a THING becomes v: what it was. "
        + "BEYOND.");
    for (int thing = 0; thing < 10; thing++) {
      SoldYear x = new SoldYear();
      for (int i = 0; i < 10; i++) {
        x.thing(10 + i, 1, 100 + i);
      }
      int[] news = {5, 9 - thing, 3, 72999};
      int[] were = {1, thing, 1, 100 + thing};
      for (int what = 0; what < 4; what++) {
        Edges.due("of thing " + thing + ", " + what, x.set(thing, what, news[what]), were[what]);
      }
      for (int i = 0; i < 10; i++) {
        int[] due = {1, i, 1, 100 + i};
        for (int what = 0; what < 4; what++) {
          Edges.due("then of " + i + ", " + what, x.thingIs(i, what), i == thing ? news[what] : due[what]);
        }
      }
    }
  }

  private static void daysOfAge() {
    Edges.sentence("AGE of a THING in a COUNTY (its own, or another one) on a DAY");
    Edges.within("day", 0, 72999, (x, v) -> x.age(3, 0, v), v -> v > 1 ? 199 : 0);
    Edges.within("county", 0, 3, (x, v) -> x.age(3, v, 72999), v -> 199);
    // county 1 gives YEARS 40 and 199 the NAMES 40 and 199: sold one, bought one; RENT: less the NAME 41 given twice;
    // TOLD: both are 158, and 5
    int[] ages = {159, 5, 188, 199};
    Edges.within("thing", 0, 3, (x, v) -> x.age(v, 1, 72999), v -> ages[v]);
  }

  private static void ageRefused() {
    Edges.sentence("AGE. BEYOND.");
    for (int thing : new int[] {-1, 4, 9, 10, Integer.MIN_VALUE, Integer.MAX_VALUE}) {
      Edges.refused("thing " + thing, Checks.BEYOND, x -> x.age(thing, 0, 0));
    }
    for (int county : new int[] {-1, 4, Integer.MIN_VALUE, Integer.MAX_VALUE}) {
      Edges.refused("county " + county, Checks.BEYOND, x -> x.age(3, county, 0));
    }
    for (int day : new int[] {-1, 73000, Integer.MIN_VALUE, Integer.MAX_VALUE}) {
      Edges.refused("day " + day, Checks.BEYOND, x -> x.age(3, 0, day));
    }
    Edges.refusedAnew("no thing", Checks.BEYOND, x -> 0, x -> x.age(0, 0, 0));
    Edges.due("the greatest of all", Edges.rich().age(3, 3, 72999), 199);
    Edges.due("the least of all", Edges.rich().age(0, 0, 0), 0);
  }

  private static void aheadOfBeginning() {
    Edges.sentence("(0, if that is ahead of the one on which it BEGAN)");
    int began = 10 * YEAR + 5;
    int[] first = {0, 0, 0, 7, 0, 2, 607};
    for (int kind = 0; kind < 7; kind++) {
      SoldYear x = new SoldYear();
      x.sale(150, 0, 1);
      x.sale(149, 2, 0);
      x.thing(kind * 10 + 7, 0, began);
      Checks.text(x, 0, "b*20+t*10+m+600");
      Edges.due("long ahead, kind " + kind, x.age(0, 0, 0), 0);
      Edges.due("the day ahead, kind " + kind, x.age(0, 0, began - 1), 0);
      Edges.due("on the day, kind " + kind, x.age(0, 0, began), first[kind]);
      Edges.due("the day behind, kind " + kind, x.age(0, 0, began + 1), first[kind]);
      x.set(0, 3, 0);
      Edges.due("from the first day of the sky, kind " + kind, x.age(0, 0, 0), first[kind]);
      x.set(0, 3, 72999);
      Edges.due("to the last day of the sky, kind " + kind, x.age(0, 0, 72999), first[kind]);
      Edges.due("ahead of the last day of the sky, kind " + kind, x.age(0, 0, 72998), 0);
    }
  }

  private static void daysCut() {
    Edges.sentence("t: DAYS since by 365 (cut).");
    SoldYear x = new SoldYear();
    x.sale(12, 0, 1);
    x.thing(0, 0, 4000);
    for (int years = 0; years <= 180; years += 60) {
      for (int county = 0; county < 4; county++) {
        Edges.due("on the day", x.age(0, county, 4000 + years * YEAR), years);
        Edges.due("a day more", x.age(0, county, 4001 + years * YEAR), years);
        Edges.due("a day less than a year more", x.age(0, county, 4364 + years * YEAR), years);
        Edges.due("a year more", x.age(0, county, 4365 + years * YEAR), years + 1);
      }
    }
  }

  private static void birthdays() {
    Edges.sentence("1 less, if the DAY of the YEAR is less than that on which it BEGAN");
    for (int of : new int[] {0, 1, 363, 364}) {
      SoldYear x = new SoldYear();
      x.thing(10, 0, 20 * YEAR + of);
      for (int day : new int[] {0, 1, 362, 363, 364}) {
        Edges.due("of " + of + ", day " + day, x.age(0, 0, 30 * YEAR + day), day < of ? 9 : 10);
      }
      x.sale(25, 0, 1);
      for (int day : new int[] {0, 1, 362, 363, 364}) {
        Edges.due("sold, of " + of + ", day " + day, x.age(0, 0, 30 * YEAR + day), day < of ? 10 : 11);
        Edges.due("bought, of " + of + ", day " + day, x.age(0, 1, 30 * YEAR + day), day < of ? 8 : 9);
      }
    }
  }

  private static void noLessThanNone() {
    Edges.sentence("0 at least. DEED: t.");
    SoldYear x = new SoldYear();
    for (int i = 0; i < 3; i++) {
      x.sale(5 + i, 0, 1);
    }
    x.thing(10, 0, 20 * YEAR + 9);
    // county 0 names YEAR 20 as 23, county 1 as 17
    int[] due = {0, 0, 0, 0, 0, 0, 0, 1, 2};
    for (int year = 0; year < due.length; year++) {
      Edges.due("on the day, year " + year, x.age(0, 1, (20 + year) * YEAR + 9), due[year]);
      if (year > 0) {
        Edges.due("the day ahead, year " + year, x.age(0, 1, (20 + year) * YEAR + 8), due[year - 1]);
      }
    }
    x.set(0, 2, 1);
    Edges.due("the other way", x.age(0, 0, 20 * YEAR + 9), 6);
    Edges.due("the first of the next year", x.age(0, 0, 21 * YEAR), 6);
  }

  private static void rentAtYearsEnds() {
    Edges.sentence("RENT: how many unlike NAMES that COUNTY gives YEARS from the one in which it BEGAN to that of the DAY, "
        + "less 1.");
    for (int of : new int[] {0, 1, 363, 364}) {
      SoldYear x = new SoldYear();
      x.thing(20, 0, 20 * YEAR + of);
      Edges.due("on the day", x.age(0, 0, 20 * YEAR + of), 0);
      Edges.due("the last of its year", x.age(0, 0, 20 * YEAR + 364), 0);
      Edges.due("the first of the next", x.age(0, 0, 21 * YEAR), 1);
      Edges.due("the last of the next", x.age(0, 0, 22 * YEAR - 1), 1);
      Edges.due("the first behind that", x.age(0, 0, 22 * YEAR), 2);
    }
  }

  private static void rentOfTradedNames() {
    Edges.sentence("RENT: how many unlike NAMES that COUNTY gives YEARS from the one in which it BEGAN to that of the DAY, "
        + "less 1.");
    SoldYear x = new SoldYear();
    x.sale(30, 0, 1);
    x.thing(20, 2, 0);
    for (int from = 28; from <= 32; from++) {
      x.set(0, 3, from * YEAR + 100);
      for (int to = from; to <= 33; to++) {
        int day = to * YEAR + 200;
        Edges.due("seller, " + from + " to " + to, x.age(0, 0, day), to - from);
        boolean twice = from <= 30 && to >= 31;
        Edges.due("buyer, " + from + " to " + to, x.age(0, 1, day), to - from - (twice ? 1 : 0));
        Edges.due("another, " + from + " to " + to, x.age(0, 3, day), to - from);
      }
    }
  }

  /** Sold and bought NAMES side by side: a NAME counts once, and those left out don't at all. */
  private static void rentOfNeighbours() {
    Edges.sentence("RENT: how many unlike NAMES that COUNTY gives YEARS from the one in which it BEGAN to that of the DAY, "
        + "less 1.");
    SoldYear x = new SoldYear();
    x.sale(30, 0, 1);
    x.sale(31, 1, 0);
    x.sale(32, 1, 0);
    x.sale(33, 0, 1);
    x.thing(20, 0, 0);
    // county 0: 29 31 31 32 32 34 35; county 1: 29 30 30 33 33 34 35
    int[][] names = {{29, 31, 31, 32, 32, 34, 35}, {29, 30, 30, 33, 33, 34, 35}};
    for (int county = 0; county < 2; county++) {
      for (int from = 0; from < 7; from++) {
        x.set(0, 3, (29 + from) * YEAR + 1);
        int unlike = 0;
        for (int to = from; to < 7; to++) {
          Edges.due("the name", x.name(county, 29 + to), names[county][to]);
          unlike += to > from && names[county][to] != names[county][to - 1] ? 1 : 0;
          Edges.due("county " + county + ", " + from + " to " + to, x.age(0, county, (29 + to) * YEAR + 1), unlike);
        }
      }
    }
  }

  private static void termsAndHeirs() {
    Edges.sentence("TERM: as DEED, and m. HEIR: as BIRTH, less m, 0 at least.");
    for (int m : new int[] {0, 1, 8, 9}) {
      SoldYear x = new SoldYear();
      x.thing(30 + m, 0, 1000);
      x.thing(40 + m, 0, 1000);
      for (int years = 0; years < 12; years++) {
        int day = 1000 + years * YEAR;
        Edges.due("term, m " + m + ", years " + years, x.age(0, 0, day), years + m);
        Edges.due("heir, m " + m + ", years " + years, x.age(1, 0, day), years < m ? 0 : years - m);
        if (years > 0) {
          Edges.due("term the day ahead, m " + m, x.age(0, 0, day - 1), years - 1 + m);
          Edges.due("heir the day ahead, m " + m, x.age(1, 0, day - 1), years - 1 < m ? 0 : years - 1 - m);
        }
      }
    }
    SoldYear y = new SoldYear();
    y.sale(1, 0, 1);
    y.thing(42, 0, 20 * YEAR);
    Edges.due("b is 0 at least ahead of m", y.age(0, 1, 20 * YEAR), 0);
    Edges.due("b 2, m 2", y.age(0, 1, 24 * YEAR), 0);
    Edges.due("b 3, m 2", y.age(0, 1, 25 * YEAR), 1);
  }

  private static void wines() {
    Edges.sentence("WINE: as BIRTH, and as many as SALES that COUNTY has part in.");
    SoldYear x = new SoldYear();
    x.thing(59, 3, 10 * YEAR + 1);
    int day = 30 * YEAR;
    Edges.due("none", x.age(0, 3, day), 19);
    for (int i = 1; i <= 6; i++) {
      x.sale(100 + i, i % 2 == 0 ? 3 : 2, i % 2 == 0 ? 2 : 3);
      Edges.due("sales " + i, x.age(0, 3, day), 19 + i);
      Edges.due("sales of the other one " + i, x.age(0, 2, day), 19 + i);
      Edges.due("of one without " + i, x.age(0, 1, day), 19);
    }
    Edges.due("the day ahead", x.age(0, 3, 10 * YEAR), 0);
    Edges.due("on the day", x.age(0, 3, 10 * YEAR + 1), 6);
    for (int i = 5; i >= 0; i--) {
      x.undo();
      Edges.due("undone, left " + i, x.age(0, 3, day), 19 + i);
    }
    x.sale(5, 3, 0);
    Edges.due("b is 0 at least, and one sale", x.age(0, 0, 10 * YEAR + 1), 1);
  }

  private static void greaterOfBoth() {
    Edges.sentence("without a TEXT the greater one of b and t");
    SoldYear x = new SoldYear();
    x.sale(30, 0, 1);
    x.thing(60, 2, 20 * YEAR + 9);
    int[][] due = {{9, 9, 9, 9}, {11, 10, 10, 10}};
    for (int county = 0; county < 4; county++) {
      Edges.due("before, county " + county, x.age(0, county, 30 * YEAR + 8), county == 0 ? 10 : due[0][county]);
      Edges.due("on the day, county " + county, x.age(0, county, 30 * YEAR + 9), due[1][county]);
    }
    Edges.due("b is one less", x.age(0, 1, 40 * YEAR + 9), 20);
    Edges.due("b is one more", x.age(0, 0, 40 * YEAR + 9), 21);
    Edges.due("both are one", x.age(0, 3, 40 * YEAR + 9), 20);
  }

  private static void yearsOfComing() {
    Edges.sentence("COMES of a THING in a COUNTY at a years (1 .. 99)");
    Edges.within("comes", 1, 99, (x, v) -> x.comes(3, 0, v), v -> 100 + v * YEAR);
    Edges.within("where", 1, 99, (x, v) -> x.where(3, v), v -> 0);
    int[] days = {41 * YEAR, 41 * YEAR, 11 * YEAR, 465};
    Edges.within("comes, thing", 0, 3, (x, v) -> x.comes(v, 2, 1), v -> days[v]);
    Edges.within("where, thing", 0, 3, (x, v) -> x.where(v, 99), v -> v == 1 ? Checks.NONE : 0);
    Edges.within("comes, county", 0, 3, (x, v) -> x.comes(3, v, 99), v -> 100 + 99 * YEAR);
  }

  private static void comingAtOnce() {
    Edges.sentence("the first DAY, from the one on which it BEGAN on, on which AGE there is a or more");
    SoldYear x = new SoldYear();
    x.thing(39, 0, 4000);
    Edges.due("less than at first", x.comes(0, 0, 8), 4000);
    Edges.due("as at first", x.comes(0, 0, 9), 4000);
    Edges.due("one more", x.comes(0, 0, 10), 4365);
    x.set(0, 3, 0);
    Edges.due("as at first, day 0", x.comes(0, 0, 9), 0);
    Edges.due("one more, day 0", x.comes(0, 0, 10), 365);
    x.set(0, 3, 72999);
    Edges.due("as at first, the last day", x.comes(0, 0, 9), 72999);
    Edges.due("one more, the last day", x.comes(0, 0, 10), Checks.NONE);
    Edges.due("where, as at first, the last day", x.where(0, 9), 0);
    Edges.due("where, one more, the last day", x.where(0, 10), Checks.NONE);
    x.set(0, 3, 0);
    x.sale(1, 3, 0);
    Edges.due("where, as at first, day 0", x.where(0, 9), 0);
    Edges.due("where, one more, day 0", x.where(0, 10), 0);
    SoldYear y = new SoldYear();
    y.sale(3, 0, 1);
    y.sale(4, 0, 1);
    y.thing(10, 1, 20 * YEAR + 50);
    // county 1 names YEAR 20 as 18, county 0 as 22
    Edges.due("at once in the other one", y.comes(0, 0, 4), 20 * YEAR + 50);
    Edges.due("by the year in the other one", y.comes(0, 0, 5), 21 * YEAR + 50);
    y.sale(22, 0, 3);
    Edges.due("more at once", y.comes(0, 0, 5), 20 * YEAR + 50);
  }

  private static void comingAtLast() {
    Edges.sentence("NONE: not by DAY 72999.");
    for (int years : new int[] {1, 2, 98, 99}) {
      SoldYear x = new SoldYear();
      x.thing(0, 0, 72999 - years * YEAR);
      Edges.due("the last day, " + years, x.comes(0, 0, years), 72999);
      Edges.due("where, " + years, x.where(0, years), 0);
      x.set(0, 3, 72998 - years * YEAR);
      Edges.due("the last but one, " + years, x.comes(0, 0, years), 72998);
      int began = 73000 - years * YEAR;
      Edges.refused("a day too late, " + years, Checks.NONE, y -> y.thing(0, 1, began), y -> y.comes(4, 0, years));
      Edges.refused("a day too late, " + years, Checks.NONE, y -> y.thing(0, 1, began), y -> y.where(4, years));
    }
    daysOfTheYear();
    SoldYear x = new SoldYear();
    x.thing(20, 0, 198 * YEAR + 364);
    Edges.due("rent, the last year's first day", x.comes(0, 0, 1), 199 * YEAR);
    x.set(0, 3, 199 * YEAR);
    Edges.due("rent, the last year", x.comes(0, 0, 1), Checks.NONE);
    x.set(0, 0, 6);
    Checks.text(x, 0, "98");
    Edges.due("told less", x.comes(0, 0, 99), Checks.NONE);
    Edges.due("told as many", x.comes(0, 0, 98), 199 * YEAR);
  }

  /** By the sky and by the book a year is over on the day of the year on which it began, not on the one beside it. */
  private static void daysOfTheYear() {
    for (int of : new int[] {0, 1, 2, 182, 362, 363, 364}) {
      SoldYear x = new SoldYear();
      x.thing(0, 2, 20 * YEAR + of);
      x.thing(10, 2, 20 * YEAR + of);
      x.thing(20, 2, 20 * YEAR + of);
      for (int years : new int[] {1, 2, 99}) {
        Edges.due("deed of day " + of, x.comes(0, 3, years), (20 + years) * YEAR + of);
        Edges.due("birth of day " + of, x.comes(1, 3, years), (20 + years) * YEAR + of);
        Edges.due("rent of day " + of, x.comes(2, 3, years), (20 + years) * YEAR);
      }
    }
  }

  private static void comingOfEachKind() {
    Edges.sentence("the first DAY, from the one on which it BEGAN on, on which AGE there is a or more");
    int began = 20 * YEAR + 50;
    for (int kind = 0; kind < 7; kind++) {
      SoldYear x = new SoldYear();
      x.sale(25, 0, 1);
      x.sale(27, 1, 0);
      x.sale(140, 0, 1);
      x.thing(kind * 10 + 2, 0, began);
      for (int county = 0; county < 3; county++) {
        for (int years = 1; years <= 9; years++) {
          int day = x.comes(0, county, years);
          Edges.due("then it is that or more", x.age(0, county, day) >= years ? 1 : 0, 1);
          if (day > began) {
            Edges.due("the day ahead it is less", x.age(0, county, day - 1) < years ? 1 : 0, 1);
            Edges.due("a year begins or it began then", day % YEAR == 0 || day % YEAR == 50 ? 1 : 0, 1);
          }
        }
      }
    }
  }

  /** AGE needn't be just as many on any DAY. */
  private static void comingByLeaps() {
    Edges.sentence("the first DAY, from the one on which it BEGAN on, on which AGE there is a or more");
    SoldYear x = new SoldYear();
    x.sale(22, 0, 1);
    x.thing(60, 0, 20 * YEAR + 50);
    Checks.text(x, 0, "b*10");
    int[] firsts = {21 * YEAR + 50, 22 * YEAR, 22 * YEAR + 50, 23 * YEAR + 50};
    for (int i = 0; i < firsts.length; i++) {
      for (int years : new int[] {10 * i + 1, 10 * i + 5, 10 * i + 9, 10 * i + 10}) {
        Edges.due("seller's " + years, x.comes(0, 0, years), firsts[i]);
      }
      Edges.due("the day ahead", x.age(0, 0, firsts[i] - 1), 10 * i);
      Edges.due("on the day", x.age(0, 0, firsts[i]), 10 * i + 10);
    }
    int[] buyers = {21 * YEAR + 50, 22 * YEAR + 50, 24 * YEAR + 50, 25 * YEAR + 50};
    for (int i = 0; i < buyers.length; i++) {
      for (int years : new int[] {10 * i + 1, 10 * i + 5, 10 * i + 9, 10 * i + 10}) {
        Edges.due("buyer's " + years, x.comes(0, 1, years), buyers[i]);
      }
    }
  }

  /** A NAME that comes twice takes a birth's years back: the first DAY is the one ahead of that. */
  private static void comingBackwards() {
    Edges.sentence("the first DAY, from the one on which it BEGAN on, on which AGE there is a or more");
    SoldYear x = new SoldYear();
    x.sale(25, 0, 1);
    x.thing(10, 1, 20 * YEAR + 50);
    int day = x.comes(0, 1, 5);
    Edges.due("five", day, 25 * YEAR + 50);
    Edges.due("the day ahead", x.age(0, 1, day - 1), 4);
    Edges.due("on the day", x.age(0, 1, day), 5);
    Edges.due("the last of that year", x.age(0, 1, 25 * YEAR + 364), 5);
    Edges.due("the first of the next", x.age(0, 1, 26 * YEAR), 4);
    Edges.due("the day ahead, a year on", x.age(0, 1, 26 * YEAR + 49), 4);
    Edges.due("a year on", x.age(0, 1, 26 * YEAR + 50), 5);
    Edges.due("six", x.comes(0, 1, 6), 27 * YEAR + 50);
    x.set(0, 3, 20 * YEAR);
    Edges.due("five, from the first of a year on", x.comes(0, 1, 5), 25 * YEAR);
    x.set(0, 3, 20 * YEAR + 364);
    Edges.due("five, from the last of a year on", x.comes(0, 1, 5), 25 * YEAR + 364);
  }

  private static void nowhere() {
    Edges.sentence("WHERE. BEYOND. NONE: nowhere.");
    SoldYear x = new SoldYear();
    x.thing(10, 0, 190 * YEAR);
    Edges.due("in all", x.where(0, 9), 0);
    Edges.due("in none", x.where(0, 10), Checks.NONE);
    x.sale(150, 3, 2);
    Edges.due("in one alone", x.where(0, 10), 3);
    Edges.due("in none", x.where(0, 11), Checks.NONE);
    x.sale(149, 3, 2);
    Edges.due("in one alone", x.where(0, 11), 3);
    Edges.due("in none", x.where(0, 12), Checks.NONE);
    Edges.refused("in none", Checks.NONE, y -> y.thing(0, 0, 72635), y -> y.where(4, 1));
    Edges.refusedAnew("no thing", Checks.BEYOND, y -> 0, y -> y.where(0, 1));
  }

  private static void leastCounty() {
    Edges.sentence("WHERE: the COUNTY in which that is first; of several the least.");
    for (int one = 0; one < 4; one++) {
      for (int other = 0; other < 4; other++) {
        if (one == other) {
          continue;
        }
        SoldYear x = new SoldYear();
        x.thing(10, 0, 20 * YEAR + 50);
        x.sale(25, one, other);
        Edges.due("first in the seller's", x.where(0, 20), one);
        Edges.due("ahead of what was sold all are like", x.where(0, 4), 0);
        int third = 0;
        while (third == one || third == other) {
          third++;
        }
        int fourth = 6 - one - other - third;
        x.sale(25, fourth, third);
        Edges.due("two like ones", x.where(0, 20), Math.min(one, fourth));
      }
    }
    SoldYear y = new SoldYear();
    y.thing(20, 0, 20 * YEAR);
    y.sale(30, 0, 1);
    y.sale(31, 1, 0);
    y.sale(30, 2, 3);
    Edges.due("one has bought none", y.where(0, 20), 2);
    y.sale(31, 3, 2);
    Edges.due("all have bought one", y.where(0, 20), 0);
    for (int county = 0; county < 4; county++) {
      Edges.due("a year later", y.comes(0, county, 20), 41 * YEAR);
    }
  }

  private static void twinsOfDates() {
    Edges.sentence("TWINS: pairs of THINGS, both BIRTHS (or of KINDS under it), of one COUNTY, with like DATES there, but "
        + "not of one DAY.");
    Edges.due("no things", new SoldYear().twins(), 0);
    SoldYear x = new SoldYear();
    x.sale(41, 0, 1);
    x.thing(10, 1, 41 * YEAR + 7);
    Edges.due("one alone", x.twins(), 0);
    x.thing(10, 1, 42 * YEAR + 6);
    Edges.due("a day less", x.twins(), 0);
    x.set(1, 3, 42 * YEAR + 7);
    Edges.due("like dates", x.twins(), 1);
    x.set(1, 3, 42 * YEAR + 8);
    Edges.due("a day more", x.twins(), 0);
    x.set(1, 3, 41 * YEAR + 7);
    Edges.due("one day", x.twins(), 0);
    x.set(1, 3, 43 * YEAR + 7);
    Edges.due("a year too late", x.twins(), 0);
    x.set(1, 3, 40 * YEAR + 7);
    Edges.due("a year too early", x.twins(), 0);
    x.set(1, 3, 42 * YEAR + 7);
    for (int county = 0; county < 4; county++) {
      x.set(1, 2, county);
      Edges.due("one of county 1, one of " + county, x.twins(), county == 1 ? 1 : 0);
    }
    x.set(1, 2, 1);
    for (int i = 2; i < 10; i++) {
      x.thing(10, 1, (41 + i % 2) * YEAR + 7);
    }
    Edges.due("five on each of the two days", x.twins(), 25);
    x.undo();
    Edges.due("no name is there twice", x.twins(), 0);
  }

  /** Which of two came first doesn't matter, nor what other THINGS are. */
  private static void twinsInAnyOrder() {
    Edges.sentence("of one COUNTY, with like DATES there, but not of one DAY.");
    for (int one = 0; one < 4; one++) {
      for (int other = 0; other < 4; other++) {
        for (int turned = 0; turned < 2; turned++) {
          SoldYear x = new SoldYear();
          x.sale(41, 0, 1);
          x.thing(10, one, (41 + turned) * YEAR + 7);
          x.thing(10, other, (42 - turned) * YEAR + 7);
          Edges.due("counties " + one + " and " + other, x.twins(), one == 1 && other == 1 ? 1 : 0);
        }
      }
    }
    for (int county = 0; county < 4; county++) {
      for (int first = 0; first < 7; first++) {
        SoldYear x = new SoldYear();
        x.sale(41, (county + 1) % 4, county);
        for (int i = 0; i < 4; i++) {
          x.thing(first * 10, (county + 1) % 4, 100 * i);
        }
        x.thing(20, county, 41 * YEAR + 7);
        x.thing(10, county, 42 * YEAR + 7);
        Edges.due("a rent and a birth", x.twins(), 0);
        x.set(4, 0, 5);
        Edges.due("wine and a birth", x.twins(), 1);
        x.set(5, 0, 3);
        Edges.due("wine and a term", x.twins(), 0);
      }
    }
  }

  private static void howManyTwins() {
    Edges.sentence("How many TWINS there are.");
    SoldYear x = new SoldYear();
    x.sale(30, 0, 1);
    int[] due = {0, 0, 1, 2, 4, 6, 9, 12, 16, 20, 25};
    for (int n = 0; n <= 10; n++) {
      Edges.due("things " + n, x.twins(), due[n]);
      x.thing(10, 1, (30 + n % 2) * YEAR + 364);
    }
    SoldYear y = new SoldYear();
    for (int n = 0; n < 10; n++) {
      y.thing(10, 1, 30 * YEAR);
    }
    Edges.due("ten of one day", y.twins(), 0);
  }

  private static void twinsOfKinds() {
    Edges.sentence("TWINS: pairs of THINGS, both BIRTHS (or of KINDS under it), of one COUNTY, with like DATES there, but "
        + "not of one DAY.");
    for (int one = 0; one < 7; one++) {
      for (int other = 0; other < 7; other++) {
        SoldYear x = new SoldYear();
        x.sale(150, 3, 0);
        x.thing(one * 10, 0, 150 * YEAR + 364);
        x.thing(other * 10, 0, 151 * YEAR + 364);
        boolean both = "145".indexOf('0' + one) >= 0 && "145".indexOf('0' + other) >= 0;
        Edges.due("kinds " + one + " and " + other, x.twins(), both ? 1 : 0);
      }
    }
  }
}
