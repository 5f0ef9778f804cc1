/** The boundaries in promises 34 to 38 and in what the terms say of SHEETS. */
public final class SheetsEdgesTest {
  public static void main(String[] args) {
    places();
    widths();
    howMany();
    missing();
    allNone();
    orderOfMaking();
    putPlaces();
    putBits();
    movesAtTheEdges();
    movesOfNone();
    movesRefused();
    orderOfMoves();
    movesOverlap();
    papersTwoByTwo();
    papersRefused();
    papersTillFull();
    papersErrors();
    judgeLengths();
    judgeLastYear();
    judgeNames();
    judgeErrors();
    Checks.end("SheetsEdgesTest");
  }

  private static void places() {
    Edges.sentence("SHEETS 0 .. 3 are rows of 8, 16, 32 bits, at most 24 numbers, or missing (as at first).");
    Edges.within("sheet", 0, 3, (x, v) -> x.sheet(v, 8, 5), v -> 1);
    Edges.within("put", 0, 3, (x, v) -> x.put(v, 0, 5), v -> v == 3 ? Checks.NONE : 1);
    Edges.within("move from", 0, 3, (x, v) -> x.move(v, 0, v, 0, 1), v -> v == 3 ? Checks.NONE : 1);
    Edges.within("move to", 0, 3, (x, v) -> x.move(0, 0, v, 0, 1), v -> v == 0 ? 1 : v == 3 ? Checks.NONE : Checks.KIND);
    Edges.within("papers", 0, 3, SoldYear::papers, v -> v == 3 ? Checks.NONE : v == 1 ? 1 : 2);
    Edges.within("judge", 0, 3, (x, v) -> x.judge(v, 0, 1), v -> v == 3 ? Checks.NONE : v == 2 ? 4 : 0);
  }

  private static void widths() {
    Edges.sentence("rows of 8, 16, 32 bits");
    for (int bits = -33; bits <= 65; bits++) {
      int width = bits;
      if (bits == 0 || bits == 8 || bits == 16 || bits == 32) {
        Edges.due("bits " + bits, Edges.rich().sheet(0, bits, 5), 1);
      } else if (bits == 33 || bits > -2 && bits < 18 || bits == 31 || bits == 64) {
        Edges.refused("bits " + bits, Checks.BEYOND, x -> x.sheet(0, width, 5));
      } else {
        Edges.due("bits " + bits, Edges.rich().sheet(0, bits, 5), Checks.BEYOND);
      }
    }
    Edges.refused("bits far below", Checks.BEYOND, x -> x.sheet(0, Integer.MIN_VALUE, 5));
    Edges.refused("bits far above", Checks.BEYOND, x -> x.sheet(0, Integer.MAX_VALUE, 5));
  }

  private static void howMany() {
    Edges.sentence("at most 24 numbers");
    for (int bits : new int[] {8, 16, 32}) {
      for (int n = 0; n <= 24; n++) {
        SoldYear x = new SoldYear();
        Edges.due("n " + n, x.sheet(2, bits, n), 1);
        if (n > 0) {
          Edges.due("the last", x.put(2, n - 1, 1), 1);
          Edges.due("the first", x.put(2, 0, 1), 1);
        }
        Edges.due("one more", x.put(2, n, 1), Checks.BEYOND);
      }
      for (int n : new int[] {25, 26, 255, 256, 65536, Integer.MAX_VALUE}) {
        Edges.refused("n " + n, Checks.BEYOND, x -> x.sheet(2, bits, n));
      }
      for (int n : new int[] {-1, -2, -24, Integer.MIN_VALUE}) {
        Edges.refused("n " + n, Checks.STATE, x -> x.sheet(2, bits, n));
      }
    }
  }

  private static void missing() {
    Edges.sentence("0: it is missing, n doesn't matter");
    for (int n : new int[] {Integer.MIN_VALUE, -1, 0, 1, 24, 25, Integer.MAX_VALUE}) {
      SoldYear x = Edges.rich();
      Edges.due("n " + n, x.sheet(0, 0, n), 1);
      Edges.due("it is missing", x.put(0, 0, 1), Checks.NONE);
      Edges.due("the others aren't", x.put(1, 0, 1), 1);
      Edges.due("missing again", x.sheet(0, 0, n), 1);
      Edges.due("anew", x.sheet(0, 8, 4), 1);
      Edges.due("all 0", x.judge(0, 0, 0), 1);
      Edges.due("told STATE", x.told(3), 1);
    }
    Edges.refused("put", Checks.NONE, x -> x.sheet(0, 0, 0), x -> x.put(0, 0, 1));
    Edges.refused("put", Checks.NONE, x -> x.put(3, 0, 1));
    Edges.refused("put, far beyond", Checks.NONE, x -> x.put(3, 99, 1));
    Edges.refused("papers", Checks.NONE, x -> x.papers(3));
    Edges.refused("judge", Checks.NONE, x -> x.judge(3, 0, 0));
  }

  private static void allNone() {
    Edges.sentence("A SHEET has n numbers, all 0, of so many bits");
    SoldYear x = new SoldYear();
    for (int bits : new int[] {8, 16, 32}) {
      for (int i = 0; i < 24; i++) {
        x.sheet(1, bits, 24);
        x.put(1, i, -1);
        x.sheet(1, bits, 24);
        x.sheet(0, bits, 1);
        x.move(1, i, 0, 0, 1);
        Edges.due("number " + i, x.judge(0, 0, 0), 1);
      }
    }
    SoldYear y = new SoldYear();
    Edges.fill(y, 0, 8, 9, 9, 9, 9, 9, 9);
    y.sheet(0, 8, 2);
    y.sheet(0, 8, 6);
    Edges.due("three papers of 0, 0", y.papers(0), 3);
    for (int i = 0; i < 3; i++) {
      Edges.due("name", y.paperIs(i, 0), 0);
      Edges.due("day of the year", y.paperIs(i, 1), 0);
    }
  }

  private static void orderOfMaking() {
    Edges.sentence("BEYOND. STATE: n is below 0 (ahead of BEYOND of n).");
    Edges.refused("BEYOND of the sheet", Checks.BEYOND, x -> x.sheet(4, 8, -1));
    Edges.refused("BEYOND of the sheet, missing", Checks.BEYOND, x -> x.sheet(4, 0, -1));
    Edges.refused("BEYOND of bits", Checks.BEYOND, x -> x.sheet(0, 24, -1));
    Edges.refused("STATE", Checks.STATE, x -> x.sheet(0, 8, -1));
    Edges.refused("STATE of a missing one", Checks.STATE, x -> x.sheet(3, 8, -1));
    Edges.due("0 is none", Edges.rich().sheet(0, 8, 0), 1);
  }

  private static void putPlaces() {
    Edges.sentence("Number i of a SHEET becomes v (its lowest bits): 1. BEYOND: no such SHEET. NONE: it is missing. BEYOND: "
        + "no such number.");
    Edges.within("number of four", 0, 3, (x, v) -> x.put(0, v, 5), v -> 1);
    Edges.within("number of two", 0, 1, (x, v) -> x.put(1, v, 5), v -> 1);
    for (int i = 0; i < 4; i++) {
      SoldYear x = Edges.rich();
      x.put(2, i, 77);
      Edges.due("the first that isn't so", x.judge(2, 0, 1), i);
    }
    Edges.refused("a sheet of none", Checks.BEYOND, x -> x.sheet(3, 8, 0), x -> x.put(3, 0, 5));
    Edges.refused("BEYOND ahead of NONE", Checks.BEYOND, x -> x.put(4, 0, 5));
    Edges.refused("BEYOND ahead of NONE", Checks.BEYOND, x -> x.put(-1, 99, 5));
    Edges.refused("NONE ahead of BEYOND", Checks.NONE, x -> x.put(3, 24, 5));
    Edges.refused("NONE ahead of BEYOND", Checks.NONE, x -> x.put(3, -1, 5));
  }

  private static void putBits() {
    Edges.sentence("Number i of a SHEET becomes v (its lowest bits)");
    for (int bits : new int[] {8, 16, 32}) {
      for (int low : new int[] {0, 1, 126, 127}) {
        for (int high : new int[] {0, 1, 2, -1, 127, 128}) {
          SoldYear x = new SoldYear();
          x.sheet(0, bits, 1);
          Edges.due("put", x.put(0, 0, bits == 32 ? low : low + (high << bits)), 1);
          Edges.due("bits " + bits + ", low " + low + ", high " + high, x.judge(0, 0, low), 1);
        }
      }
    }
    SoldYear x = new SoldYear();
    x.sheet(0, 8, 1);
    x.sheet(1, 16, 1);
    x.sheet(2, 32, 1);
    for (int sheet = 0; sheet < 3; sheet++) {
      x.put(sheet, 0, 1 << 8);
      Edges.due("2^8, sheet " + sheet, x.judge(sheet, 0, 0), sheet == 0 ? 1 : 0);
      x.put(sheet, 0, 1 << 16);
      Edges.due("2^16, sheet " + sheet, x.judge(sheet, 0, 0), sheet < 2 ? 1 : 0);
      x.put(sheet, 0, 1 << 31);
      Edges.due("2^31, sheet " + sheet, x.judge(sheet, 0, 0), sheet < 2 ? 1 : 0);
      x.put(sheet, 0, -1);
      for (int year = 0; year < 200; year += 40 - year / 160) {
        Edges.due("all bits are no name, sheet " + sheet, x.judge(sheet, 0, year), 0);
      }
    }
    x.put(1, 0, 199);
    x.put(2, 0, 199);
    Edges.due("199 of 16 bits", x.judge(1, 0, 199), 1);
    Edges.due("199 of 32 bits", x.judge(2, 0, 199), 1);
  }

  private static SoldYear two() {
    SoldYear x = new SoldYear();
    Edges.fill(x, 0, 16, 11, 12, 13, 14, 15);
    Edges.fill(x, 1, 16, 21, 22, 23);
    return x;
  }

  private static void holds(SoldYear x, int sheet, int... numbers) {
    x.sheet(3, 16, 1);
    for (int i = 0; i < numbers.length; i++) {
      x.move(sheet, i, 3, 0, 1);
      Edges.due("number " + i + " of sheet " + sheet, x.judge(3, 0, numbers[i]), 1);
    }
    Edges.due("no more", x.put(sheet, numbers.length, 0), Checks.BEYOND);
  }

  private static void movesAtTheEdges() {
    Edges.sentence("n numbers of a SHEET, from number i on, come to another one (or the same), from its number j on, as "
        + "they all were: n.");
    for (int i = -1; i <= 6; i++) {
      for (int j = -1; j <= 4; j++) {
        for (int n = -1; n <= 4; n++) {
          SoldYear x = two();
          boolean stand = n >= 0 && i >= 0 && j >= 0 && i + n <= 5 && j + n <= 3;
          Edges.due("i " + i + ", j " + j + ", n " + n, x.move(0, i, 1, j, n), stand ? n : Checks.BEYOND);
          int[] due = {21, 22, 23};
          for (int k = 0; stand && k < n; k++) {
            due[j + k] = 11 + i + k;
          }
          holds(x, 1, due);
          holds(x, 0, 11, 12, 13, 14, 15);
          Edges.due("told", x.told(1), stand ? 2 : 3);
        }
      }
    }
    SoldYear x = new SoldYear();
    x.sheet(0, 8, 24);
    x.sheet(1, 8, 24);
    Edges.due("24 of 24", x.move(0, 0, 1, 0, 24), 24);
    Edges.due("25 of 24", x.move(0, 0, 1, 0, 25), Checks.BEYOND);
    Edges.due("23 from 1 on", x.move(0, 1, 1, 1, 23), 23);
    Edges.due("24 from 1 on", x.move(0, 1, 1, 0, 24), Checks.BEYOND);
    Edges.due("24 to 1 on", x.move(0, 0, 1, 1, 24), Checks.BEYOND);
  }

  private static void movesOfNone() {
    Edges.sentence("BEYOND: n, i, or j is below 0, or they don't stand there.");
    SoldYear x = two();
    Edges.due("none from the end on", x.move(0, 5, 1, 3, 0), 0);
    Edges.due("none from behind the end", x.move(0, 6, 1, 3, 0), Checks.BEYOND);
    Edges.due("none to behind the end", x.move(0, 5, 1, 4, 0), Checks.BEYOND);
    Edges.due("none from ahead", x.move(0, -1, 1, 3, 0), Checks.BEYOND);
    Edges.due("none to ahead", x.move(0, 5, 1, -1, 0), Checks.BEYOND);
    x.sheet(2, 16, 0);
    Edges.due("none of none", x.move(2, 0, 2, 0, 0), 0);
    Edges.due("none to none", x.move(0, 0, 2, 0, 0), 0);
    Edges.due("one to none", x.move(0, 0, 2, 0, 1), Checks.BEYOND);
    Edges.due("one of none", x.move(2, 0, 0, 0, 1), Checks.BEYOND);
    holds(x, 0, 11, 12, 13, 14, 15);
    holds(x, 1, 21, 22, 23);
  }

  private static void movesRefused() {
    Edges.sentence("BEYOND: n, i, or j is below 0, or they don't stand there.");
    int[][] refused = {{-1, 0, 1}, {0, -1, 1}, {0, 0, -1}, {0, 0, 5}, {1, 0, 4}, {0, 1, 4}, {4, 0, 1}, {0, 4, 1},
        {Integer.MAX_VALUE, 0, 1}, {0, Integer.MAX_VALUE, 1}, {0, 0, Integer.MAX_VALUE},
        {Integer.MIN_VALUE, 0, 1}, {0, Integer.MIN_VALUE, 1}, {0, 0, Integer.MIN_VALUE},
        {1, 1, Integer.MAX_VALUE}, {Integer.MAX_VALUE, 0, Integer.MAX_VALUE}, {Integer.MAX_VALUE, Integer.MAX_VALUE, 0},
        {Integer.MIN_VALUE, 0, Integer.MIN_VALUE}, {Integer.MAX_VALUE, 0, 2}, {0, Integer.MAX_VALUE, 2}};
    for (int[] r : refused) {
      String call = "i " + r[0] + ", j " + r[1] + ", n " + r[2];
      Edges.refused(call, Checks.BEYOND, x -> x.move(0, r[0], 0, r[1], r[2]));
      Edges.refused(call, Checks.BEYOND, x -> x.sheet(3, 32, 4), x -> x.move(2, r[0], 3, r[1], r[2]));
    }
  }

  private static void orderOfMoves() {
    Edges.sentence("BEYOND: no such SHEET. NONE: one is missing. KIND: they are of unlike bits. BEYOND: n, i, or j is below "
        + "0, or they don't stand there.");
    for (int sheet : new int[] {-1, 4, Integer.MIN_VALUE, Integer.MAX_VALUE}) {
      Edges.refused("BEYOND of the one", Checks.BEYOND, x -> x.move(sheet, 0, 3, 0, 1));
      Edges.refused("BEYOND of the other", Checks.BEYOND, x -> x.move(3, 0, sheet, 0, 1));
      Edges.refused("BEYOND of both", Checks.BEYOND, x -> x.move(sheet, 0, sheet, 0, 0));
    }
    for (int there = 0; there < 3; there++) {
      int sheet = there;
      Edges.refused("NONE of the one, ahead of BEYOND", Checks.NONE, x -> x.move(3, -1, sheet, 0, 1));
      Edges.refused("NONE of the other, ahead of BEYOND", Checks.NONE, x -> x.move(sheet, 0, 3, -1, 1));
      for (int other = 0; other < 3; other++) {
        int to = other;
        if (to == sheet) {
          Edges.due("like bits", Edges.rich().move(sheet, 0, to, 0, 1), 1);
          Edges.refused("BEYOND of n", Checks.BEYOND, x -> x.move(sheet, 0, to, 0, -1));
        } else {
          Edges.refused("KIND", Checks.KIND, x -> x.move(sheet, 0, to, 0, 1));
          Edges.refused("KIND of none", Checks.KIND, x -> x.move(sheet, 0, to, 0, 0));
          Edges.refused("KIND ahead of BEYOND", Checks.KIND, x -> x.move(sheet, 0, to, 0, -1));
          Edges.refused("KIND ahead of BEYOND", Checks.KIND, x -> x.move(sheet, 99, to, 99, 99));
        }
      }
    }
    Edges.refused("NONE of both", Checks.NONE, x -> x.move(3, 0, 3, 0, 0));
  }

  private static void movesOverlap() {
    Edges.sentence("come to another one (or the same), from its number j on, as they all were: n");
    for (int i = 0; i <= 5; i++) {
      for (int j = 0; j <= 5; j++) {
        for (int n = 0; n <= 5 - Math.max(i, j); n++) {
          SoldYear x = two();
          Edges.due("i " + i + ", j " + j + ", n " + n, x.move(0, i, 0, j, n), n);
          int[] due = {11, 12, 13, 14, 15};
          for (int k = 0; k < n; k++) {
            due[j + k] = 11 + i + k;
          }
          holds(x, 0, due);
        }
      }
    }
  }

  private static void papersTwoByTwo() {
    Edges.sentence("Numbers of a SHEET, two by two, are PAPERS (NAME, DAY of the YEAR): how many came, up to the first that "
        + "paper() would refuse, or that isn't whole (no ERROR then).");
    for (int n = 0; n <= 24; n++) {
      SoldYear x = new SoldYear();
      x.sheet(0, 16, n);
      for (int i = 0; i < n; i++) {
        x.put(0, i, 100 + i);
      }
      int due = Math.min(8, n / 2);
      Edges.due("numbers " + n, x.papers(0), due);
      Edges.due("papers", x.count(2), due);
      for (int i = 0; i < due; i++) {
        Edges.due("name", x.paperIs(i, 0), 100 + 2 * i);
        Edges.due("day of the year", x.paperIs(i, 1), 101 + 2 * i);
      }
      for (int k = 1; k <= 6; k++) {
        Edges.due("no ERRORS", x.told(k), 0);
      }
    }
  }

  private static void papersRefused() {
    Edges.sentence("up to the first that paper() would refuse");
    int[][] good = {{0, 0}, {206, 0}, {0, 364}, {206, 364}, {205, 363}, {1, 1}};
    int[][] bad = {{-1, 0}, {207, 0}, {0, -1}, {0, 365}, {Integer.MIN_VALUE, 0}, {Integer.MAX_VALUE, 0},
        {0, Integer.MIN_VALUE}, {0, Integer.MAX_VALUE}, {-1, 365}};
    for (int[] g : good) {
      SoldYear x = new SoldYear();
      Edges.fill(x, 0, 32, g[0], g[1]);
      Edges.due("a good one", x.papers(0), 1);
      Edges.due("name", x.paperIs(0, 0), g[0]);
      Edges.due("day of the year", x.paperIs(0, 1), g[1]);
    }
    for (int[] b : bad) {
      for (int ahead = 0; ahead <= 2; ahead++) {
        SoldYear x = new SoldYear();
        x.sheet(0, 32, 2 * ahead + 4);
        x.put(0, 2 * ahead, b[0]);
        x.put(0, 2 * ahead + 1, b[1]);
        Edges.due(b[0] + ", " + b[1] + " behind " + ahead, x.papers(0), ahead);
        Edges.due("none behind it", x.count(2), ahead);
        for (int k = 1; k <= 6; k++) {
          Edges.due("no ERRORS", x.told(k), 0);
        }
      }
    }
  }

  private static void papersTillFull() {
    Edges.sentence("up to the first that paper() would refuse");
    for (int held = 0; held <= 8; held++) {
      SoldYear x = new SoldYear();
      for (int i = 0; i < held; i++) {
        x.paper(9, i);
      }
      x.sheet(0, 8, 24);
      Edges.due("held " + held, x.papers(0), 8 - held);
      Edges.due("eight", x.count(2), 8);
      Edges.due("none more", x.papers(0), 0);
      Edges.due("no ERROR", x.told(4), 0);
      Edges.due("a ninth", x.paper(0, 0), Checks.FULL);
    }
  }

  private static void papersErrors() {
    Edges.sentence("Each act tells its ERRORS in the order in which they are asked");
    Edges.refused("BEYOND", Checks.BEYOND, x -> x.papers(4));
    Edges.refused("BEYOND", Checks.BEYOND, x -> x.papers(-1));
    Edges.refused("NONE", Checks.NONE, x -> x.papers(3));
    Edges.due("a sheet that is there", Edges.rich().papers(2), 2);
    SoldYear x = Edges.rich();
    x.sheet(2, 32, 0);
    Edges.due("a sheet of none", x.papers(2), 0);
    x.sheet(2, 32, 1);
    Edges.due("a sheet of one", x.papers(2), 0);
    x.sheet(2, 32, 2);
    Edges.due("a sheet of two", x.papers(2), 1);
    x.sheet(2, 0, 2);
    Edges.due("missing again", x.papers(2), Checks.NONE);
  }

  private static void judgeLengths() {
    Edges.sentence("the first that isn't so (also one beyond YEAR 199); as many as there are: none");
    for (int n = 0; n <= 24; n++) {
      SoldYear x = new SoldYear();
      x.sheet(0, 16, n);
      for (int i = 0; i < n; i++) {
        x.put(0, i, 30 + i);
      }
      Edges.due("all of " + n, x.judge(0, 0, 30), n);
      Edges.due("a year ahead", x.judge(0, 0, 29), 0);
      Edges.due("a year behind", x.judge(0, 0, 31), 0);
      if (n > 0) {
        x.put(0, n - 1, 29 + n + 1);
        Edges.due("the last isn't so, of " + n, x.judge(0, 0, 30), n - 1);
        x.put(0, 0, 29);
        Edges.due("the first isn't so, of " + n, x.judge(0, 0, 30), 0);
      }
    }
  }

  private static void judgeLastYear() {
    Edges.sentence("the first that isn't so (also one beyond YEAR 199)");
    for (int n = 1; n <= 4; n++) {
      SoldYear x = new SoldYear();
      x.sheet(0, 16, n);
      for (int from = 195; from <= 199; from++) {
        for (int i = 0; i < n; i++) {
          x.put(0, i, from + i);
        }
        Edges.due(n + " from " + from, x.judge(0, 3, from), Math.min(n, 200 - from));
      }
      Edges.due("from 200", x.judge(0, 3, 200), Checks.BEYOND);
    }
    SoldYear x = new SoldYear();
    x.sale(150, 2, 1);
    Edges.fill(x, 0, 16, 198, 199, 200, 201);
    Edges.due("the seller's", x.judge(0, 2, 197), 3);
    Edges.due("the buyer's", x.judge(0, 1, 199), 1);
    Edges.due("the buyer's, ahead", x.judge(0, 1, 198), 0);
    Edges.due("another's", x.judge(0, 0, 198), 2);
  }

  private static void judgeNames() {
    Edges.sentence("Numbers of a SHEET are NAMES of YEARS from one (0 .. 199) on in a COUNTY");
    SoldYear x = new SoldYear();
    x.sale(30, 0, 1);
    Edges.fill(x, 0, 8, 28, 29, 31, 32);
    Edges.fill(x, 1, 16, 29, 30, 30, 31);
    Edges.fill(x, 2, 32, 29, 30, 31, 32);
    int[][] due = {{4, 2, 2, 2}, {1, 4, 2, 2}, {1, 2, 4, 4}};
    for (int county = 0; county < 4; county++) {
      Edges.due("left out, county " + county, x.judge(0, county, 28), due[0][county]);
      Edges.due("twice, county " + county, x.judge(1, county, 29), due[1][county]);
      Edges.due("once, county " + county, x.judge(2, county, 29), due[2][county]);
    }
  }

  private static void judgeErrors() {
    Edges.sentence("BEYOND: SHEET, COUNTY, YEAR. NONE.");
    for (int v : new int[] {-1, 4, Integer.MIN_VALUE, Integer.MAX_VALUE}) {
      Edges.refused("the sheet", Checks.BEYOND, x -> x.judge(v, 0, 0));
      Edges.refused("the county", Checks.BEYOND, x -> x.judge(0, v, 0));
      Edges.refused("the county, ahead of NONE", Checks.BEYOND, x -> x.judge(3, v, 0));
    }
    for (int v : new int[] {-1, 200, Integer.MIN_VALUE, Integer.MAX_VALUE}) {
      Edges.refused("the year", Checks.BEYOND, x -> x.judge(0, 0, v));
      Edges.refused("the year, ahead of NONE", Checks.BEYOND, x -> x.judge(3, 0, v));
    }
    Edges.refused("NONE", Checks.NONE, x -> x.judge(3, 3, 199));
    Edges.due("the greatest of all", Edges.rich().judge(2, 3, 199), 0);
    Edges.due("the least of all", Edges.rich().judge(0, 0, 0), 0);
  }
}
