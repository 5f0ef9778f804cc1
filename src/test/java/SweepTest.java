/**
 * Every act with every choice of arguments from those right at their boundaries, a step on either side, and far away,
 * on objects that are empty, hold something, or are full, compared with NaiveYear, answer by answer, and with all that
 * is to be seen in the end.
 */
public final class SweepTest {
  /** Calls on one object; what is done ahead of them and the look at the end have to fit into 512, too. */
  private static final int CALLS = 90;

  private static final int LEAST = Integer.MIN_VALUE;
  private static final int GREATEST = Integer.MAX_VALUE;
  private static final int[] SOLD = {0, 1, 2, 41, 149, 150, 151};
  private static final int[] COUNTY = {-1, 0, 3, 4};
  private static final int[] YEAR = {-1, 0, 1, 41, 42, 198, 199, 200};
  private static final int[] DAY = {-1, 0, 364, 365, 14964, 14965, 15329, 15330, 72635, 72998, 72999, 73000, LEAST, GREATEST};
  private static final int[] NAME = {-1, 0, 1, 40, 41, 42, 199, 200, 205, 206, 207};
  private static final int[] OF = {-1, 0, 364, 365};
  private static final int[] TWO = {-1, 0, 1, 2};
  private static final int[] THREE = {-1, 0, 2, 3};
  private static final int[] TERM = {0, 1, 2, 41, 98, 99, 100};
  private static final int[] THING = {-1, 0, 3, 4, 9, 10};
  private static final int[] PAPER = {-1, 0, 2, 3, 7, 8, GREATEST};
  private static final int[] SHEET = {-1, 0, 1, 2, 3, 4};
  private static final int[] NUMBER = {-1, 0, 1, 2, 4, 23, 24, 25, LEAST, GREATEST};
  private static final int[] WHAT = {-1, 0, 1, 2, 3, 4, 5, 6, 7, 8, 9};
  private static final int[] ANY = {LEAST, -1000000001, -1, 0, 1, 127, 128, 255, 256, 65535, 65536, GREATEST};

  private Both both;
  private String act = "";
  private int state;
  private int calls;

  private SweepTest() {
  }

  public static void main(String[] args) throws ReflectiveOperationException {
    new SweepTest().all();
    Checks.end("SweepTest");
  }

  private void all() throws ReflectiveOperationException {
    for (state = 0; state < 3 && Checks.allRight(); state++) {
      sales();
      things();
      papers();
      voicesAndSheets();
    }
  }

  private void sales() throws ReflectiveOperationException {
    sweep("sale", SOLD, COUNTY, COUNTY);
    sweep("breaks", SOLD, COUNTY, COUNTY);
    sweep("least", COUNTY, COUNTY);
    sweep("saleIs", THING, THREE);
    sweep("undo");
    sweep("name", COUNTY, YEAR);
    sweep("date", COUNTY, DAY);
    sweep("day", COUNTY, NAME, OF, TWO);
    sweep("pass", new int[] {LEAST, -1, 0, 1, 3005, 3006, 9998, 9999, 10000, GREATEST});
  }

  private void things() throws ReflectiveOperationException {
    sweep("thing", new int[] {-1, 0, 9, 10, 69, 70, LEAST, GREATEST}, COUNTY, new int[] {-1, 0, 72999, 73000});
    sweep("thingIs", THING, WHAT);
    sweep("as", THING, WHAT);
    sweep("set", THING, new int[] {-1, 0, 1, 2, 3, 4}, new int[] {-1, 0, 1, 3, 4, 6, 7, 9, 10, 72999, 73000});
    sweep("age", THING, COUNTY, DAY);
    sweep("comes", THING, COUNTY, TERM);
    sweep("where", THING, TERM);
    sweep("twins");
    sweep("feed", new int[] {0, 97, -1}, new int[] {LEAST, -1, 0, 1, 7, 8, 9, GREATEST});
    sweep("text", TWO);
    sweep("untell", TWO);
  }

  private void papers() throws ReflectiveOperationException {
    sweep("paper", NAME, OF);
    sweep("paperIs", PAPER, THREE);
    sweep("burn");
    sweep("may", PAPER, NUMBER);
    sweep("rows");
    sweep("span", PAPER, TWO);
    sweep("clerk");
    sweep("seed", ANY);
    sweep("comet", DAY, TERM);
    sweep("claim", NAME);
    sweep("tell", ANY);
    sweep("check");
    sweep("image");
    sweep("restore");
    sweep("count", WHAT);
    sweep("told", WHAT);
  }

  private void voicesAndSheets() throws ReflectiveOperationException {
    sweep("voice", THING, new int[] {-1, 0, 1, 2, 3, 4}, ANY);
    sweep("body", NUMBER);
    sweep("sheet", SHEET, new int[] {-8, -1, 0, 1, 7, 8, 9, 16, 24, 32, 33}, NUMBER);
    sweep("put", SHEET, NUMBER, ANY);
    sweep("move", SHEET, new int[] {-1, 0, 2, 4, GREATEST}, SHEET, new int[] {-1, 0, 1, 4, GREATEST},
        new int[] {-1, 0, 1, 2, 3, 4, 5, GREATEST});
    sweep("papers", SHEET);
    sweep("judge", SHEET, COUNTY, YEAR);
  }

  /** All choices of arguments, one behind the other on the same object, and a new one from time to time. */
  private void sweep(String name, int[]... from) throws ReflectiveOperationException {
    act = name;
    calls = CALLS;
    choose(from, 0, new Object[from.length]);
    look();
  }

  private void choose(int[][] from, int at, Object[] args) throws ReflectiveOperationException {
    if (at < from.length) {
      for (int v : from[at]) {
        args[at] = v;
        choose(from, at + 1, args);
      }
      return;
    }
    if (calls == CALLS) {
      look();
      begin();
      calls = 0;
    }
    calls++;
    both.ask(act, args);
  }

  private void begin() throws ReflectiveOperationException {
    both = new Both();
    if (state > 0) {
      ahead("sale 41 0 1", "sale 1 2 3", "sale 150 3 0", "thing 10 0 14600", "thing 52 1 15330", "thing 63 1 14965",
          "thing 25 2 3650", "paper 40 300", "paper 41 100", "paper 42 10", "pass 9999", "pass 9999", "comet 14965 2",
          "feed 98 1", "text 0", "tell 5", "image", "feed 97 1", "text 1", "tell 14900", "tell 15065", "seed 77",
          "feed 97 1", "sheet 0 8 4", "put 0 0 41", "put 0 1 9", "sheet 1 16 5", "put 1 2 42", "sheet 2 8 3", "put 2 1 7",
          "voice 1 3 5");
    }
    if (state > 1) {
      ahead("sale 42 1 0", "sale 43 0 1", "sale 2 2 3");
      for (int i = 4; i < 10; i++) {
        ahead("thing " + 7 * i + " " + i % 4 + " " + 5000 * i);
      }
      for (int i = 3; i < 8; i++) {
        ahead("paper " + (41 + i) + " " + i);
      }
      for (int i = 3; i < 24; i++) {
        ahead("tell " + i);
      }
      for (int i = 0; i < 7; i++) {
        ahead("feed 97 8");
      }
      ahead("feed 97 2", "pass 9999", "pass 9999", "pass 9999", "pass 9999", "pass 9999", "pass 3005");
    }
  }

  private void ahead(String... lines) throws ReflectiveOperationException {
    for (String line : lines) {
      String[] words = line.split(" ");
      Object[] args = new Object[words.length - 1];
      for (int i = 0; i < args.length; i++) {
        args[i] = Integer.valueOf(words[i + 1]);
      }
      both.ask(words[0], args);
    }
  }

  /** What is to be seen of both in the end. */
  private void look() throws ReflectiveOperationException {
    if (both == null) {
      return;
    }
    for (int k = 1; k <= 6; k++) {
      both.ask("told", k);
    }
    for (int i = 0; i < 4; i++) {
      both.ask("body", i);
    }
    lookAtWorld();
    for (int sheet = 0; sheet < 4; sheet++) {
      for (int i = 0; i < 8; i++) {
        both.ask("burn");
      }
      both.ask("papers", sheet);
      for (int i = 0; i < both.y.count(2); i++) {
        both.ask("paperIs", i, 0);
        both.ask("paperIs", i, 1);
      }
    }
    both.ask("restore");
    lookAtWorld();
    both.ask("image");
    if (!Checks.allRight()) {
      System.out.println(both.story());
    }
    both = null;
  }

  private void lookAtWorld() throws ReflectiveOperationException {
    for (int what = 0; what <= 8; what++) {
      both.ask("count", what);
    }
    for (int i = 0; i < both.y.count(0); i++) {
      both.ask("saleIs", i, 0);
      both.ask("saleIs", i, 1);
      both.ask("saleIs", i, 2);
    }
    for (int i = 0; i < both.y.count(1); i++) {
      for (int what = 0; what < 5; what++) {
        both.ask("thingIs", i, what);
      }
    }
    for (int i = 0; i < both.y.count(2); i++) {
      both.ask("paperIs", i, 0);
      both.ask("paperIs", i, 1);
    }
    both.ask("rows");
    both.ask("claim", 41);
    both.ask("claim", 42);
    both.ask("claim", 43);
    both.ask("check");
    both.ask("text", 1);
    both.ask("count", 8);
  }
}
