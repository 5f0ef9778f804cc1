import java.io.IOException;
import java.nio.file.Files;
import java.nio.file.Path;
import java.util.ArrayList;
import java.util.List;

/**
 * What the boundary tests share: the sentence of the document that a test is about, an object that has something of
 * everything, and a look at all of it, which shows that a refused call changes nothing but what told() tells.
 */
final class Edges {
  /** An object is good for 512 calls; what a test does ahead of the refused call has to fit in beside the look. */
  private static final int MOST_LOOKED = 400;

  private static String document = "";
  private static String sentence = "";

  interface Act {
    long on(SoldYear x);
  }

  interface ActOf {
    long on(SoldYear x, int v);
  }

  interface Due {
    long of(int v);
  }

  private Edges() {
  }

  /** The words of the document that the following calls are about; they have to stand there. */
  static void sentence(String words) {
    sentence = words;
    Checks.due("the document has: " + words, document().contains(words) ? 1 : 0, 1);
  }

  static void due(String call, long got, long want) {
    Checks.due("[" + sentence + "] " + call, got, want);
  }

  private static String document() {
    if (document.isEmpty()) {
      try {
        document = Files.readString(Path.of("../shared/DOC.md"));
      } catch (IOException missing) {
        throw new IllegalStateException(missing);
      }
    }
    return document;
  }

  /** The calls right at both ends and a step inside are answered as due; those a step or more outside are BEYOND. */
  static void within(String call, int low, int high, ActOf act, Due due) {
    for (int v : new int[] {low, low + 1, high - 1, high}) {
      due(call + " of " + v, act.on(rich(), v), due.of(v));
    }
    for (int v : new int[] {low - 1, high + 1, Integer.MIN_VALUE, Integer.MAX_VALUE}) {
      refused(call + " of " + v, Checks.BEYOND, x -> act.on(x, v));
    }
  }

  /** A call on an object that has something of everything. */
  static void refused(String call, int error, Act act) {
    refused(call, error, x -> 0, act);
  }

  /** The same, when something more was done ahead. */
  static void refused(String call, int error, Act ahead, Act act) {
    SoldYear x = rich();
    SoldYear spared = rich();
    ahead.on(x);
    ahead.on(spared);
    unchanged(call, error, x, spared, act);
  }

  /** A call on a new object, when that was done ahead. */
  static void refusedAnew(String call, int error, Act ahead, Act act) {
    SoldYear x = new SoldYear();
    SoldYear spared = new SoldYear();
    ahead.on(x);
    ahead.on(spared);
    unchanged(call, error, x, spared, act);
  }

  /** Both objects have had the same calls; one of them has the refused call, too, and is like the other one then. */
  private static void unchanged(String call, int error, SoldYear x, SoldYear spared, Act act) {
    due(call, act.on(x), error);
    for (int k = 1; k <= 6; k++) {
      long more = error == Checks.LOW - k ? 1 : 0;
      due(call + ", told " + k, x.told(k), spared.told(k) + more);
    }
    same(call, x, spared);
  }

  /** Two objects of which the same is to be seen; both are used up by it. */
  static void same(String call, SoldYear x, SoldYear other) {
    List<Long> seen = look(x);
    List<Long> asDue = look(other);
    due(call + ", what is to be seen is small enough", Math.max(MOST_LOOKED, seen.size()), MOST_LOOKED);
    due(call + ", how much is to be seen then", seen.size(), asDue.size());
    for (int i = 0; i < seen.size() && i < asDue.size(); i++) {
      due(call + ", thing " + i + " to be seen then", seen.get(i), asDue.get(i));
    }
  }

  /** Something of everything: about fifty calls. */
  static SoldYear rich() {
    SoldYear x = new SoldYear();
    x.sale(41, 0, 1);
    x.sale(44, 2, 3);
    x.thing(10, 0, 14600);
    x.thing(63, 1, 14965);
    x.thing(25, 2, 3650);
    x.paper(40, 300);
    x.paper(41, 100);
    x.pass(9999);
    x.pass(9999);
    x.comet(14965, 2);
    x.seed(77);
    Checks.word(x, "b+t");
    x.text(0);
    Checks.word(x, "a*3+k");
    x.text(1);
    x.tell(9);
    Checks.word(x, "m");
    x.image();
    x.check();
    x.text(1);
    x.sale(50, 1, 2);
    x.thing(4, 3, 100);
    x.paper(42, 10);
    x.seed(5);
    x.pass(3);
    x.comet(3650, 7);
    Checks.word(x, "m-a");
    x.text(1);
    Checks.word(x, "b-t+5");
    x.text(0);
    Checks.word(x, "a+m*7");
    x.tell(14900);
    x.tell(15065);
    x.tell(15340);
    fill(x, 0, 8, 10, 20, 30, 40);
    fill(x, 1, 16, 206, 364);
    fill(x, 2, 32, 1, 2, 3, 4);
    x.voice(1, 2, 9);
    x.body(99);
    x.sale(0, 0, 0);
    x.sale(41, 0, 1);
    return x;
  }

  static void fill(SoldYear x, int sheet, int bits, int... numbers) {
    x.sheet(sheet, bits, numbers.length);
    for (int i = 0; i < numbers.length; i++) {
      x.put(sheet, i, numbers[i]);
    }
  }

  /** All that can be seen of an object; what can be seen but by changing it comes last. */
  private static List<Long> look(SoldYear x) {
    List<Long> seen = new ArrayList<>();
    int bodies = x.count(6);
    for (int i = 0; i <= bodies; i++) {
      add(seen, x.body(i));
    }
    lookAtWorld(x, seen);
    lookAtSheets(x, seen);
    add(seen, x.restore());
    lookAtWorld(x, seen);
    add(seen, x.image());
    return seen;
  }

  private static void add(List<Long> seen, long answer) {
    seen.add(answer);
  }

  private static void lookAtWorld(SoldYear x, List<Long> seen) {
    for (int what = 0; what <= 8; what++) {
      add(seen, x.count(what));
    }
    for (int sale = 0; sale < x.count(0); sale++) {
      add(seen, x.saleIs(sale, 0));
      add(seen, x.saleIs(sale, 1));
      add(seen, x.saleIs(sale, 2));
    }
    for (int county = 0; county < 4; county++) {
      add(seen, x.name(county, 199));
    }
    for (int thing = 0; thing < x.count(1); thing++) {
      for (int what = 0; what <= 5; what++) {
        add(seen, x.thingIs(thing, what));
      }
    }
    for (int paper = 0; paper < x.count(2); paper++) {
      add(seen, x.paperIs(paper, 0));
      add(seen, x.paperIs(paper, 1));
    }
    add(seen, x.rows());
    for (int name = 10; name <= 44; name += 2) {
      add(seen, x.claim(name));
    }
    add(seen, x.check());
    add(seen, x.text(1));
    add(seen, x.count(8));
  }

  /** The numbers of SHEETS come to light as PAPERS, their bits by what is lost when a number is put. */
  private static void lookAtSheets(SoldYear x, List<Long> seen) {
    for (int sheet = 0; sheet < 4; sheet++) {
      int n = 0;
      while (n < 30 && x.move(sheet, n, sheet, n, 1) == 1) {
        n++;
      }
      add(seen, n);
      add(seen, x.move(sheet, n, sheet, n, 0));
      while (x.count(2) > 0) {
        x.burn();
      }
      add(seen, x.papers(sheet));
      for (int paper = 0; paper < x.count(2); paper++) {
        add(seen, x.paperIs(paper, 0));
        add(seen, x.paperIs(paper, 1));
      }
      add(seen, x.put(sheet, 0, (1 << 8) + 7));
      add(seen, x.judge(sheet, 0, 7));
      add(seen, x.put(sheet, 0, (1 << 16) + 7));
      add(seen, x.judge(sheet, 0, 7));
    }
  }
}
