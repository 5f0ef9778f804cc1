/** Promises 32 and 33: the voices of things of each kind, and the trace of the bodies. */
public final class VoicesTest {
  public static void main(String[] args) {
    answers();
    traces();
    parted();
    wraps();
    refusals();
    Checks.end("VoicesTest");
  }

  /** A thing of that kind and m, whose number is 2. */
  private static SoldYear third(int kind, int m) {
    SoldYear x = new SoldYear();
    x.thing(0, 0, 0);
    x.thing(0, 0, 0);
    x.thing(kind * 10 + m, 3, 5);
    return x;
  }

  private static void answers() {
    // number 2, m 5, x 10: dates, ages, dues, parts
    int[][] due = {
      {12, 24, 19, 3},
      {5, 10, 5, 3 + (3 - 7) * 2},
      {12, -24, -29, 3},
      {12, 24, (5 + 2) * 2 - 5, 3},
      {15, 30, (30 - 5) ^ 2, 3 + (3 - 7) * 3 * 2},
      {5, (13 - 7) * 2, (13 - 7) * 2 - 5, 3 + (1 + 1 + 2 - 7) * 2},
      {4, 8 + 5, 8 + 5 - 5, 3},
    };
    for (int kind = 0; kind < 7; kind++) {
      SoldYear x = third(kind, 5);
      for (int voice = 0; voice < 4; voice++) {
        Checks.due("kind " + kind + " voice " + voice, x.voice(2, voice, 10), due[kind][voice]);
      }
    }
  }

  private static void traces() {
    int[][][] due = {
      {{10}, {11, 10}, {12, 11, 10}, {13}},
      {{20, 10}, {11, 20, 10}, {12, 11, 20, 10}, {21, 13, 11, 20, 10}},
      {{10}, {30, 11, 10}, {12, 30, 11, 10}, {13}},
      {{10}, {11, 10}, {40, 12, 11, 10}, {13}},
      {{50, 20, 10}, {11, 50, 20, 10}, {51, 12, 11, 50, 20, 10}, {21, 13, 11, 50, 20, 10}},
      {{20, 10}, {60, 11, 20, 10}, {12, 60, 11, 20, 10}, {21, 13, 60, 11, 20, 10}},
      {{70}, {71, 11, 70}, {12, 71, 11, 70}, {13}},
    };
    for (int kind = 0; kind < 7; kind++) {
      SoldYear x = third(kind, 5);
      for (int voice = 0; voice < 4; voice++) {
        x.voice(2, voice, 10);
        int[] bodies = due[kind][voice];
        Checks.due("kind " + kind + " voice " + voice + " bodies", x.count(6), bodies.length);
        for (int i = 0; i < bodies.length; i++) {
          Checks.due("kind " + kind + " voice " + voice + " body " + i, x.body(i), bodies[i]);
        }
        Checks.due("no more", x.body(bodies.length), Checks.NONE);
      }
      Checks.due("body -1", x.body(-1), Checks.NONE);
      Checks.due("body far above", x.body(Integer.MAX_VALUE), Checks.NONE);
    }
  }

  private static void parted() {
    SoldYear x = third(1, 2);
    Checks.due("parted", x.voice(2, 3, 10), Checks.PARTED);
    Checks.due("bodies till then", x.count(6), 2);
    Checks.due("body 0", x.body(0), 21);
    Checks.due("body 1", x.body(1), 13);
    Checks.due("told", x.told(6), 1);
    x.set(2, 0, 3);
    Checks.due("parted below", x.voice(2, 3, 0), Checks.PARTED);
    Checks.due("told", x.told(6), 2);
    x.set(2, 1, 3);
    Checks.due("not any more", x.voice(2, 3, 10), 10);
    x.set(2, 1, 0);
    Checks.due("cut toward 0", x.voice(2, 3, 5), -2);
    Checks.due("told", x.told(6), 2);
  }

  private static void wraps() {
    SoldYear x = third(0, 1);
    Checks.due("dates", x.voice(2, 0, Integer.MAX_VALUE), Integer.MIN_VALUE + 1);
    Checks.due("ages", x.voice(2, 1, 1 << 30), (int) ((1L << 31) + 4));
    Checks.due("the least by -1", x.voice(2, 3, Integer.MIN_VALUE), Integer.MIN_VALUE);
    Checks.due("looks like an error", x.voice(2, 0, Checks.BEYOND - 2), Checks.BEYOND);
    for (int k = 1; k <= 6; k++) {
      Checks.due("but is none " + k, x.told(k), 0);
    }
    SoldYear y = third(3, 1);
    Checks.due("halves are cut", y.voice(2, 2, -3), (-1 + 2) * 2 - 1);
  }

  private static void refusals() {
    SoldYear x = third(0, 1);
    Checks.due("a voice", x.voice(2, 1, 5), 14);
    Checks.due("voice 4", x.voice(2, 4, 5), Checks.BEYOND);
    Checks.due("voice -1", x.voice(2, -1, 5), Checks.BEYOND);
    Checks.due("no such thing", x.voice(3, 0, 5), Checks.BEYOND);
    Checks.due("thing -1", x.voice(-1, 0, 5), Checks.BEYOND);
    Checks.due("the trace stays", x.count(6), 2);
    Checks.due("the trace stays", x.body(0), 11);
  }
}
