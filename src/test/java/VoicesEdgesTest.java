/** The boundaries in promises 32 and 33 and in what the terms say of VOICES, BODIES and THE TRACE. */
public final class VoicesEdgesTest {
  private static final int LEAST = Integer.MIN_VALUE;
  private static final int GREATEST = Integer.MAX_VALUE;

  public static void main(String[] args) {
    thingsAndVoices();
    numbersOfThings();
    wraps();
    halves();
    parts();
    partsOfBirths();
    partedAtNone();
    partedOfEachKind();
    partedChangesNothingElse();
    bodies();
    latestOne();
    longestTrace();
    noErrors();
    Checks.end("VoicesEdgesTest");
  }

  private static void thingsAndVoices() {
    Edges.sentence("A VOICE of a THING. BEYOND. PARTED.");
    int[] things = {993, 4, 1002, 1003};
    Edges.within("thing", 0, 3, (x, v) -> x.voice(v, 0, 1000), v -> things[v]);
    int[] voices = {1003, 2006, 2002, 1000};
    Edges.within("voice", 0, 3, (x, v) -> x.voice(3, v, 1000), v -> voices[v]);
    Edges.refusedAnew("no thing", Checks.BEYOND, x -> 0, x -> x.voice(0, 0, 0));
    Edges.refused("one that is gone", Checks.BEYOND, SoldYear::restore, x -> x.voice(3, 0, 0));
    Edges.sentence("Each act tells its ERRORS in the order in which they are asked");
    Edges.refused("BEYOND ahead of PARTED", Checks.BEYOND, x -> x.set(3, 1, 3), x -> x.voice(3, 4, 0));
    Edges.refused("BEYOND ahead of PARTED", Checks.BEYOND, x -> x.set(3, 1, 3), x -> x.voice(4, 3, 0));
  }

  private static void numbersOfThings() {
    Edges.sentence("k is its number, m as told");
    SoldYear x = new SoldYear();
    for (int k = 0; k < 10; k++) {
      x.thing(9 - k, 0, 0);
      Edges.due("dates of " + k, x.voice(k, 0, 100), 100 + k);
      Edges.due("ages of " + k, x.voice(k, 1, 100), 200 + 2 * k);
      Edges.due("dues of " + k, x.voice(k, 2, 100), 200 + 2 * k - (9 - k));
      Edges.due("parts of " + k, x.voice(k, 3, 100), 100 / (9 - 2 * k));
    }
    Edges.due("no number 10", x.voice(10, 0, 100), Checks.BEYOND);
    for (int k = 0; k < 10; k++) {
      x.set(k, 0, 4);
      Edges.due("an heir's dues of " + k, x.voice(k, 2, 100), (100 + k - 7) * 3 * 2 - (9 - k) ^ k);
    }
  }

  private static SoldYear second(int km) {
    SoldYear x = new SoldYear();
    x.thing(0, 0, 0);
    x.thing(km, 0, 0);
    return x;
  }

  private static void wraps() {
    Edges.sentence("VOICES of a THING, with a number x (ints that wrap)");
    SoldYear deed = second(3);
    Edges.due("dates", deed.voice(1, 0, GREATEST - 1), GREATEST);
    Edges.due("dates", deed.voice(1, 0, GREATEST), LEAST);
    Edges.due("dates", deed.voice(1, 0, LEAST), LEAST + 1);
    Edges.due("ages", deed.voice(1, 1, (1 << 30) - 2), GREATEST - 1);
    Edges.due("ages", deed.voice(1, 1, (1 << 30) - 1), LEAST);
    Edges.due("ages", deed.voice(1, 1, -(1 << 30) - 1), LEAST);
    Edges.due("ages", deed.voice(1, 1, -(1 << 30) - 2), GREATEST - 1);
    Edges.due("ages", deed.voice(1, 1, GREATEST), 0);
    Edges.due("dues", deed.voice(1, 2, -(1 << 30) - 1), GREATEST - 2);
    Edges.due("dues", deed.voice(1, 2, -(1 << 30)), GREATEST);
    SoldYear birth = second(10);
    Edges.due("dates of a birth", birth.voice(1, 0, LEAST + 6), LEAST);
    Edges.due("dates of a birth", birth.voice(1, 0, LEAST + 5), GREATEST);
    SoldYear rent = second(20);
    Edges.due("ages of a rent", rent.voice(1, 1, (1 << 30) - 1), LEAST);
    Edges.due("ages of a rent", rent.voice(1, 1, (1 << 30) - 2), -(GREATEST - 1));
    SoldYear heir = second(40);
    Edges.due("dates of an heir", heir.voice(1, 0, GREATEST), (LEAST - 7) * 3);
    SoldYear wine = second(50);
    Edges.due("ages of wine", wine.voice(1, 1, GREATEST), (LEAST + 1 - 7) * 2);
    SoldYear told = second(69);
    Edges.due("dates of a told one", told.voice(1, 0, LEAST), 4);
    Edges.due("ages of a told one", told.voice(1, 1, GREATEST), 8 + 9);
  }

  private static void halves() {
    Edges.sentence("TERM: 40 dues: super.dues(x / 2).");
    SoldYear x = new SoldYear();
    x.thing(30, 0, 0);
    for (int v : new int[] {LEAST, LEAST + 1, -3, -2, -1, 0, 1, 2, 3, GREATEST - 1, GREATEST}) {
      Edges.due("dues of " + v, x.voice(0, 2, v), v / 2 * 2);
    }
    Edges.sentence("Quotients are cut toward 0.");
    Edges.due("half of -1", x.voice(0, 2, -1), 0);
    Edges.due("half of -3", x.voice(0, 2, -3), -2);
  }

  private static void parts() {
    Edges.sentence("13 parts: x by (m - k), cut");
    for (int by = -9; by <= 9; by++) {
      if (by == 0) {
        continue;
      }
      SoldYear x = new SoldYear();
      int k = by < 0 ? -by : 0;
      for (int i = 0; i <= k; i++) {
        x.thing(by < 0 ? 0 : by, 0, 0);
      }
      for (int v : new int[] {LEAST, LEAST + 1, -10, -9, -8, -1, 0, 1, 8, 9, 10, GREATEST}) {
        Edges.due(v + " by " + by, x.voice(k, 3, v), (int) ((long) v / by));
      }
    }
    SoldYear x = second(0);
    Edges.due("the least by -1 wraps", x.voice(1, 3, LEAST), LEAST);
    Edges.due("the next by -1", x.voice(1, 3, LEAST + 1), GREATEST);
  }

  /** A birth's parts of any number: its ages are those of 1 all the same. */
  private static void partsOfBirths() {
    Edges.sentence("21 parts: super.parts(x) + ages(1).");
    for (int kind : new int[] {1, 4, 5}) {
      int ages = kind == 4 ? (1 + 1 - 7) * 3 * 2 : kind == 5 ? (2 + 1 - 7) * 2 : (1 + 1 - 7) * 2;
      for (int v : new int[] {LEAST, -41, -40, -39, -1, 0, 1, 38, 39, 40, 41, 80, 1000, GREATEST}) {
        Edges.due("kind " + kind + ", parts of " + v, second(kind * 10 + 2).voice(1, 3, v), v + ages);
        Edges.due("kind " + kind + ", thirds of " + v, second(kind * 10 + 4).voice(1, 3, v), v / 3 + ages);
      }
    }
  }

  private static void partedAtNone() {
    Edges.sentence("(PARTED if that is 0; that is all that voice() answers then)");
    for (int k = 0; k < 10; k++) {
      for (int m = Math.max(0, k - 1); m <= Math.min(9, k + 1); m++) {
        SoldYear x = new SoldYear();
        for (int i = 0; i <= k; i++) {
          x.thing(m, 0, 0);
        }
        Edges.due("m " + m + ", k " + k, x.voice(k, 3, 7), m == k ? Checks.PARTED : 7 * (m - k));
        Edges.due("0 by that", x.voice(k, 3, 0), m == k ? Checks.PARTED : 0);
        Edges.due("told", x.told(6), m == k ? 2 : 0);
        Edges.due("other voices don't part", x.voice(k, 2, 0), 2 * k - m);
        Edges.due("told", x.told(6), m == k ? 2 : 0);
      }
    }
  }

  private static void partedOfEachKind() {
    Edges.sentence("(PARTED if that is 0; that is all that voice() answers then)");
    for (int kind = 0; kind < 7; kind++) {
      boolean birth = kind == 1 || kind == 4 || kind == 5;
      for (int m = 0; m <= 2; m++) {
        SoldYear x = second(kind * 10 + m);
        int ages = kind == 4 ? (1 + 1 - 7) * 3 * 2 : kind == 5 ? (2 + 1 - 7) * 2 : (1 + 1 - 7) * 2;
        int due = 6 * (m - 1) + (birth ? ages : 0);
        Edges.due("kind " + kind + ", m " + m, x.voice(1, 3, 6), m == 1 ? Checks.PARTED : due);
        Edges.due("kind " + kind + ", m " + m + " told", x.told(6), m == 1 ? 1 : 0);
        int own = birth ? 1 : 0;
        Edges.due("it began with", x.body(0), birth ? 21 : 13);
        Edges.due("that parts", x.body(own), 13);
        if (m == 1 || !birth) {
          Edges.due("no more bodies began", x.count(6), own + 1);
        }
      }
    }
  }

  /** The same TRACE comes from a voice() that isn't PARTED; all the rest stays. */
  private static void partedChangesNothingElse() {
    Edges.sentence("one that answers an ERROR changes nothing but what told() tells, or where told");
    SoldYear x = Edges.rich();
    SoldYear spared = Edges.rich();
    x.set(3, 1, 3);
    Edges.due("parted", x.voice(3, 3, 7), Checks.PARTED);
    Edges.due("told", x.told(6), 1);
    Edges.due("not parted", spared.voice(3, 3, 7), 7);
    spared.set(3, 1, 3);
    Edges.due("told", spared.told(6), 0);
    for (int k = 1; k <= 5; k++) {
      Edges.due("told " + k, x.told(k), spared.told(k));
    }
    Edges.same("parted", x, spared);
  }

  private static void bodies() {
    Edges.sentence("THE TRACE's i-th. NONE: there is none such.");
    int[] trace = {12, 71, 11, 70};
    for (int i = 0; i < 4; i++) {
      Edges.due("body " + i, Edges.rich().body(i), trace[i]);
    }
    for (int i : new int[] {-1, 4, 5, 29, 30, 31, LEAST, GREATEST}) {
      Edges.refused("body " + i, Checks.NONE, x -> x.body(i));
    }
    Edges.refusedAnew("none yet", Checks.NONE, x -> 0, x -> x.body(0));
  }

  private static void latestOne() {
    Edges.sentence("THE TRACE: the numbers of BODIES of the latest voice(), as they began");
    SoldYear x = second(0);
    x.voice(1, 2, 0);
    Edges.due("three", x.count(6), 3);
    x.voice(1, 0, 0);
    Edges.due("one", x.count(6), 1);
    Edges.due("it", x.body(0), 10);
    Edges.due("no more", x.body(1), Checks.NONE);
    x.voice(1, 4, 0);
    x.voice(2, 0, 0);
    Edges.due("a refused one is none", x.body(0), 10);
    x.set(1, 1, 1);
    Edges.due("parted", x.voice(1, 3, 0), Checks.PARTED);
    Edges.due("its", x.body(0), 13);
    Edges.due("one", x.count(6), 1);
    x.image();
    x.voice(1, 1, 0);
    x.restore();
    Edges.due("no image keeps it", x.count(6), 2);
  }

  private static void longestTrace() {
    Edges.sentence("(what stands left is worked out first), the first 30");
    SoldYear x = new SoldYear();
    x.thing(41, 0, 0);
    int[] heir = {51, 12, 11, 50, 20, 10};
    x.voice(0, 2, 5);
    Edges.due("six", x.count(6), 6);
    for (int i = 0; i < 6; i++) {
      Edges.due("body " + i, x.body(i), heir[i]);
    }
    Edges.due("no seventh", x.body(6), Checks.NONE);
    int[] parts = {21, 13, 11, 50, 20, 10};
    x.voice(0, 3, 5);
    for (int i = 0; i < 6; i++) {
      Edges.due("body " + i, x.body(i), parts[i]);
    }
    Edges.due("six", x.count(6), 6);
    Edges.due("no seventh", x.body(6), Checks.NONE);
  }

  private static void noErrors() {
    Edges.sentence("ERRORS are answers below -1000000000");
    SoldYear x = second(0);
    for (int v = -1000000008; v <= -999999998; v++) {
      Edges.due("dates", x.voice(1, 0, v), v + 1);
    }
    for (int k = 1; k <= 6; k++) {
      Edges.due("they are none", x.told(k), 0);
    }
  }
}
