import java.util.ArrayDeque;
import java.util.ArrayList;
import java.util.Arrays;
import java.util.Deque;
import java.util.List;
import java.util.TreeSet;

/** The document once more, in the plainest way that takes no care of time or room: what ModelTest compares with. */
final class NaiveYear {
  static final int LOW = -1000000000;

  private static final class Parted extends RuntimeException {
    private static final long serialVersionUID = 1;
  }

  private static final class World {
    List<int[]> sales = new ArrayList<>();
    List<int[]> things = new ArrayList<>();
    List<int[]> papers = new ArrayList<>();
    List<Integer> tape = new ArrayList<>();
    List<Integer> waiting = new ArrayList<>();
    String[] texts = new String[2];
    int now;
    int z = 1;
    int[] comet;

    World copy() {
      World w = new World();
      sales.forEach(s -> w.sales.add(s.clone()));
      things.forEach(s -> w.things.add(s.clone()));
      papers.forEach(s -> w.papers.add(s.clone()));
      w.tape.addAll(tape);
      w.waiting.addAll(waiting);
      w.texts = texts.clone();
      w.now = now;
      w.z = z;
      w.comet = comet;
      return w;
    }
  }

  private World w = new World();
  private World kept;
  private int images;
  private final int[] errors = new int[7];
  private List<Integer> trace = new ArrayList<>();
  private final int[][] sheets = new int[4][];
  private final int[] bits = new int[4];

  private int err(int k) {
    errors[k]++;
    return LOW - k;
  }

  private static boolean in(int v, int low, int high) {
    return low <= v && v <= high;
  }

  // ---- sales, names, dates

  private int refusal(int name, int from, int to) {
    if (!in(name, 1, 150) || !in(from, 0, 3) || !in(to, 0, 3) || from == to) {
      return 1;
    }
    for (int[] s : w.sales) {
      if (s[0] == name && (s[1] == from || s[2] == from || s[1] == to || s[2] == to)) {
        return 3;
      }
    }
    return w.sales.size() >= 6 ? 4 : 0;
  }

  int sale(int name, int from, int to) {
    int r = refusal(name, from, to);
    if (r != 0) {
      return err(r);
    }
    w.sales.add(new int[] {name, from, to});
    return w.sales.size() - 1;
  }

  int saleIs(int sale, int what) {
    return in(sale, 0, w.sales.size() - 1) && in(what, 0, 2) ? w.sales.get(sale)[what] : err(1);
  }

  int undo() {
    if (w.sales.isEmpty()) {
      return err(3);
    }
    w.sales.remove(w.sales.size() - 1);
    return w.sales.size();
  }

  private int[] namesOf(int county) {
    int[] names = new int[200];
    int year = 0;
    for (int name = 0; year < 200; name++) {
      int times = 1;
      for (int[] s : w.sales) {
        times += s[0] != name ? 0 : s[1] == county ? -1 : s[2] == county ? 1 : 0;
      }
      for (; times > 0 && year < 200; times--) {
        names[year++] = name;
      }
    }
    return names;
  }

  int name(int county, int year) {
    return in(county, 0, 3) && in(year, 0, 199) ? namesOf(county)[year] : err(1);
  }

  int date(int county, int day) {
    return in(county, 0, 3) && in(day, 0, 72999) ? namesOf(county)[day / 365] * 1000 + day % 365 : err(1);
  }

  int day(int county, int name, int of, int i) {
    if (!in(county, 0, 3) || !in(name, 0, 206) || !in(of, 0, 364) || !in(i, 0, 1)) {
      return err(1);
    }
    int[] names = namesOf(county);
    for (int year = 0; year < 200; year++) {
      if (names[year] == name && i-- == 0) {
        return year * 365 + of;
      }
    }
    return err(2);
  }

  int pass(int n) {
    if (!in(n, 1, 9999)) {
      return err(1);
    }
    if (w.now + n > 72999) {
      return err(3);
    }
    return w.now += n;
  }

  // ---- things: kind, m, county, began

  int thing(int km, int county, int began) {
    if (!in(km, 0, 69) || !in(county, 0, 3) || !in(began, 0, 72999)) {
      return err(1);
    }
    if (w.things.size() == 10) {
      return err(4);
    }
    w.things.add(new int[] {km / 10, km % 10, county, began});
    return w.things.size() - 1;
  }

  private boolean isThing(int thing) {
    return in(thing, 0, w.things.size() - 1);
  }

  private int ageNow(int[] t) {
    return ageOf(t, w.now, namesOf(t[2]), namesOf(t[2]), t[2]);
  }

  private int worth(int[] t) {
    int a = ageNow(t);
    int v = w.texts[1] == null ? a * 10 + t[1] : new Reckoner(w.texts[1], "akm", a, t[0], t[1]).all();
    return Math.max(-9999, Math.min(9999, v));
  }

  private int ageOf(int[] t, int day, int[] there, int[] own, int county) {
    int began = t[3];
    if (day < began) {
      return 0;
    }
    int sky = (day - began) / 365;
    int book = there[day / 365] - own[began / 365];
    if (day % 365 < began % 365) {
      book = book - 1;
    }
    if (book < 0) {
      book = 0;
    }
    switch (t[0]) {
      case 0:
        return sky;
      case 1:
        return book;
      case 2:
        TreeSet<Integer> names = new TreeSet<>();
        for (int year = began / 365; year <= day / 365; year++) {
          names.add(there[year]);
        }
        return names.size() - 1;
      case 3:
        return sky + t[1];
      case 4:
        return book < t[1] ? 0 : book - t[1];
      case 5:
        for (int[] s : w.sales) {
          book += s[1] == county || s[2] == county ? 1 : 0;
        }
        return book;
      default:
        if (w.texts[0] == null) {
          return Math.max(book, sky);
        }
        int v = new Reckoner(w.texts[0], "btm", book, sky, t[1]).all();
        return v < 0 ? 0 : v > 999 ? 999 : v;
    }
  }

  int thingIs(int thing, int what) {
    if (!isThing(thing) || !in(what, 0, 5)) {
      return err(1);
    }
    int[] t = w.things.get(thing);
    return what < 4 ? t[what] : what == 4 ? ageNow(t) : worth(t);
  }

  private static boolean under(int own, int kind) {
    String[] lines = {"0", "10", "20", "30", "410", "510", "60"};
    return lines[own].indexOf('0' + kind) >= 0;
  }

  int as(int thing, int kind) {
    if (!isThing(thing) || !in(kind, 0, 6)) {
      return err(1);
    }
    int[] t = w.things.get(thing);
    return under(t[0], kind) ? t[3] : err(5);
  }

  int set(int thing, int what, int v) {
    int[] most = {6, 9, 3, 72999};
    if (!isThing(thing) || !in(what, 0, 3) || !in(v, 0, most[what])) {
      return err(1);
    }
    int was = w.things.get(thing)[what];
    w.things.get(thing)[what] = v;
    return was;
  }

  int age(int thing, int county, int day) {
    if (!isThing(thing) || !in(county, 0, 3) || !in(day, 0, 72999)) {
      return err(1);
    }
    int[] t = w.things.get(thing);
    return ageOf(t, day, namesOf(county), namesOf(t[2]), county);
  }

  private int first(int[] t, int county, int years) {
    int[] there = namesOf(county);
    int[] own = namesOf(t[2]);
    for (int day = t[3]; day < 73000; day++) {
      if (ageOf(t, day, there, own, county) >= years) {
        return day;
      }
    }
    return 73000;
  }

  int comes(int thing, int county, int years) {
    if (!isThing(thing) || !in(county, 0, 3) || !in(years, 1, 99)) {
      return err(1);
    }
    int day = first(w.things.get(thing), county, years);
    return day == 73000 ? err(2) : day;
  }

  int where(int thing, int years) {
    if (!isThing(thing) || !in(years, 1, 99)) {
      return err(1);
    }
    int best = 73000;
    int at = -1;
    for (int county = 3; county >= 0; county--) {
      int day = first(w.things.get(thing), county, years);
      if (day < 73000 && day <= best) {
        best = day;
        at = county;
      }
    }
    return at < 0 ? err(2) : at;
  }

  int twins() {
    int pairs = 0;
    for (int[] s : w.things) {
      for (int[] t : w.things) {
        if (s[3] < t[3] && under(s[0], 1) && under(t[0], 1) && s[2] == t[2] && s[3] % 365 == t[3] % 365
            && namesOf(s[2])[s[3] / 365] == namesOf(t[2])[t[3] / 365]) {
          pairs++;
        }
      }
    }
    return pairs;
  }

  // ---- texts

  int feed(long word, int n) {
    if (!in(n, 1, 8)) {
      return err(1);
    }
    if (w.tape.size() + n > 60) {
      return err(4);
    }
    for (int i = 0; i < n; i++) {
      w.tape.add((int) (word & 255));
      word >>= 8;
    }
    return w.tape.size();
  }

  int text(int use) {
    if (!in(use, 0, 1)) {
      return err(1);
    }
    StringBuilder text = new StringBuilder();
    w.tape.forEach(b -> text.append((char) (int) b));
    w.tape.clear();
    int fault = fault(text.toString(), use == 0 ? "btm" : "akm");
    if (fault >= 0) {
      return -10 - fault;
    }
    w.texts[use] = text.toString();
    return 1;
  }

  int untell(int use) {
    if (!in(use, 0, 1)) {
      return err(1);
    }
    int was = w.texts[use] == null ? 0 : 1;
    w.texts[use] = null;
    return was;
  }

  /** Goes on byte by byte with a heap of what is open: ! and (, and C for a comparison that a B has had. -1: none. */
  private static int fault(String text, String names) {
    Deque<Character> open = new ArrayDeque<>();
    boolean awaited = true;
    int digits = 0;
    for (int i = 0; i < text.length(); i++) {
      char c = text.charAt(i);
      boolean digit = c >= '0' && c <= '9';
      if (awaited) {
        if (digit || names.indexOf(c) >= 0) {
          awaited = false;
          digits = digit ? 1 : 0;
          while (!open.isEmpty() && open.peek() == '!') {
            open.pop();
          }
        } else if (c == '!' || c == '(') {
          if (open.stream().filter(o -> o != 'C').count() == 5) {
            return i;
          }
          open.push(c);
        } else {
          return i;
        }
      } else if (digit && digits > 0 && digits < 4) {
        digits++;
      } else if ("+-*/%".indexOf(c) >= 0) {
        awaited = true;
      } else if ("<=>".indexOf(c) >= 0) {
        if (!open.isEmpty() && open.peek() == 'C') {
          return i;
        }
        open.push('C');
        awaited = true;
      } else if (c == '&' || c == '|') {
        if (!open.isEmpty() && open.peek() == 'C') {
          open.pop();
        }
        awaited = true;
      } else if (c == ')') {
        if (!open.isEmpty() && open.peek() == 'C') {
          open.pop();
        }
        if (open.isEmpty()) {
          return i;
        }
        open.pop();
        digits = 0;
        while (!open.isEmpty() && open.peek() == '!') {
          open.pop();
        }
      } else {
        return i;
      }
    }
    return awaited || open.contains('(') ? text.length() : -1;
  }

  /** Splits a good text at its last sign of the weakest kind outside of brackets. */
  private static final class Reckoner {
    private final String text;
    private final String names;
    private final int[] values;

    Reckoner(String text, String names, int... values) {
      this.text = text;
      this.names = names;
      this.values = values;
    }

    int all() {
      return of(text);
    }

    private int of(String s) {
      for (String signs : new String[] {"|", "&", "<=>", "+-", "*/%"}) {
        int depth = 0;
        for (int i = s.length() - 1; i > 0; i--) {
          char c = s.charAt(i);
          depth += c == ')' ? 1 : c == '(' ? -1 : 0;
          if (depth == 0 && signs.indexOf(c) >= 0) {
            return join(c, of(s.substring(0, i)), of(s.substring(i + 1)));
          }
        }
      }
      if (s.charAt(0) == '!') {
        return of(s.substring(1)) == 0 ? 1 : 0;
      }
      if (s.charAt(0) == '(') {
        return of(s.substring(1, s.length() - 1));
      }
      int name = names.indexOf(s.charAt(0));
      return name >= 0 ? values[name] : Integer.parseInt(s);
    }

    private static int join(char c, int a, int b) {
      switch (c) {
        case '|': return a != 0 ? 1 : b != 0 ? 1 : 0;
        case '&': return a == 0 ? 0 : b == 0 ? 0 : 1;
        case '<': return a < b ? 1 : 0;
        case '=': return a == b ? 1 : 0;
        case '>': return a > b ? 1 : 0;
        case '+': return a + b;
        case '-': return a - b;
        case '*': return a * b;
        case '/': return b == 0 ? 0 : a / b;
        default: return b == 0 ? 0 : a % b;
      }
    }
  }

  // ---- papers

  int paper(int name, int of) {
    if (!in(name, 0, 206) || !in(of, 0, 364)) {
      return err(1);
    }
    if (w.papers.size() == 8) {
      return err(4);
    }
    w.papers.add(new int[] {name, of});
    return w.papers.size() - 1;
  }

  private boolean isPaper(int paper) {
    return in(paper, 0, w.papers.size() - 1);
  }

  private List<Integer> mays(int paper) {
    TreeSet<Integer> days = new TreeSet<>();
    int[] p = w.papers.get(paper);
    for (int county = 0; county < 4; county++) {
      int[] names = namesOf(county);
      for (int year = 0; year < 200; year++) {
        if (names[year] == p[0]) {
          days.add(year * 365 + p[1]);
        }
      }
    }
    return new ArrayList<>(days);
  }

  int paperIs(int paper, int what) {
    if (!isPaper(paper) || !in(what, 0, 2)) {
      return err(1);
    }
    return what == 2 ? mays(paper).size() : w.papers.get(paper)[what];
  }

  int burn() {
    if (w.papers.isEmpty()) {
      return err(3);
    }
    w.papers.remove(w.papers.size() - 1);
    return w.papers.size();
  }

  int may(int paper, int i) {
    if (!isPaper(paper) || i < 0) {
      return err(1);
    }
    List<Integer> days = mays(paper);
    return i < days.size() ? days.get(i) : err(2);
  }

  private long tryAll(List<List<Integer>> days, int paper, int before, int[] picked, int[][] spans) {
    if (paper == days.size()) {
      for (int i = 0; i < paper; i++) {
        spans[0][i] = Math.min(spans[0][i], picked[i]);
        spans[1][i] = Math.max(spans[1][i], picked[i]);
      }
      return 1;
    }
    long ways = 0;
    for (int day : days.get(paper)) {
      if (day > before) {
        picked[paper] = day;
        ways += tryAll(days, paper + 1, day, picked, spans);
      }
    }
    return ways;
  }

  private long tryAll(int[][] spans) {
    Arrays.fill(spans[0], Integer.MAX_VALUE);
    Arrays.fill(spans[1], -1);
    List<List<Integer>> days = new ArrayList<>();
    for (int i = 0; i < w.papers.size(); i++) {
      days.add(mays(i));
    }
    return tryAll(days, 0, -1, new int[8], spans);
  }

  long rows() {
    return tryAll(new int[2][8]);
  }

  int span(int paper, int greatest) {
    if (!isPaper(paper) || !in(greatest, 0, 1)) {
      return err(1);
    }
    int[][] spans = new int[2][8];
    return tryAll(spans) == 0 ? err(2) : spans[greatest][paper];
  }

  int clerk() {
    int others = 0;
    for (int[] p : w.papers) {
      w.z = (int) ((long) w.z * 1103515245L + 12345L);
      long draw = (w.z & 0xFFFFFFFFL) >> 8;
      int was = p[0];
      if (draw % 8 == 0 && p[0] < 206) {
        p[0]++;
      } else if (draw % 8 == 1 && p[0] > 0) {
        p[0]--;
      }
      others += p[0] == was ? 0 : 1;
    }
    return others;
  }

  int seed(int v) {
    int was = w.z;
    w.z = v;
    return was;
  }

  // ---- a comet, another sale

  int comet(int day, int p) {
    if (!in(day, 0, 72999) || !in(p, 1, 99)) {
      return err(1);
    }
    w.comet = new int[] {day, p};
    int times = 0;
    for (; day < 73000; day += 365 * p) {
      times++;
    }
    return times;
  }

  int claim(int name) {
    if (!in(name, 0, 206)) {
      return err(1);
    }
    if (w.comet == null) {
      return err(3);
    }
    int bits = 0;
    for (int county = 0; county < 4; county++) {
      int[] names = namesOf(county);
      for (int day = w.comet[0]; day < 73000; day += 365 * w.comet[1]) {
        bits |= names[day / 365] == name ? 1 << county : 0;
      }
    }
    return bits;
  }

  private int broken(int name, int from, int to) {
    World now = w;
    World other = w.copy();
    other.sales.add(new int[] {name, from, to});
    int broken = 0;
    for (int[] t : now.things) {
      w = now;
      int before = ageNow(t);
      w = other;
      broken += ageNow(t) == before ? 0 : 1;
    }
    w = now;
    return broken;
  }

  int breaks(int name, int from, int to) {
    int r = refusal(name, from, to);
    return r == 0 ? broken(name, from, to) : err(r);
  }

  int least(int from, int to) {
    if (!in(from, 0, 3) || !in(to, 0, 3) || from == to) {
      return err(1);
    }
    if (w.sales.size() == 6) {
      return err(4);
    }
    int best = -1;
    int fewest = 99;
    for (int name = 60; name >= 1; name--) {
      if (refusal(name, from, to) == 0 && broken(name, from, to) <= fewest) {
        best = name;
        fewest = broken(name, from, to);
      }
    }
    return best < 0 ? err(2) : best;
  }

  // ---- voices: with Java's own super

  private static class Deed {
    final int k;
    final int m;
    final List<Integer> trace;

    Deed(int k, int m, List<Integer> trace) {
      this.k = k;
      this.m = m;
      this.trace = trace;
    }

    int dates(int x) {
      trace.add(10);
      return x + k;
    }

    int ages(int x) {
      trace.add(11);
      return dates(x) * 2;
    }

    int dues(int x) {
      trace.add(12);
      return ages(x) - m;
    }

    int parts(int x) {
      trace.add(13);
      if (m == k) {
        throw new Parted();
      }
      return x / (m - k);
    }
  }

  private static class Birth extends Deed {
    Birth(int k, int m, List<Integer> trace) {
      super(k, m, trace);
    }

    @Override int dates(int x) {
      trace.add(20);
      return super.dates(x) - 7;
    }

    @Override int parts(int x) {
      trace.add(21);
      return super.parts(x) + ages(1);
    }
  }

  private static class Rent extends Deed {
    Rent(int k, int m, List<Integer> trace) {
      super(k, m, trace);
    }

    @Override int ages(int x) {
      trace.add(30);
      return 0 - super.ages(x);
    }
  }

  private static class Term extends Deed {
    Term(int k, int m, List<Integer> trace) {
      super(k, m, trace);
    }

    @Override int dues(int x) {
      trace.add(40);
      return super.dues(x / 2);
    }
  }

  private static class Heir extends Birth {
    Heir(int k, int m, List<Integer> trace) {
      super(k, m, trace);
    }

    @Override int dates(int x) {
      trace.add(50);
      return super.dates(x) * 3;
    }

    @Override int dues(int x) {
      trace.add(51);
      return super.dues(x) ^ k;
    }
  }

  private static class Wine extends Birth {
    Wine(int k, int m, List<Integer> trace) {
      super(k, m, trace);
    }

    @Override int ages(int x) {
      trace.add(60);
      return super.ages(x + 1);
    }
  }

  private static class Told extends Deed {
    Told(int k, int m, List<Integer> trace) {
      super(k, m, trace);
    }

    @Override int dates(int x) {
      trace.add(70);
      return 4;
    }

    @Override int ages(int x) {
      trace.add(71);
      return super.ages(x) + m;
    }
  }

  private Deed deed(int number) {
    int m = w.things.get(number)[1];
    switch (w.things.get(number)[0]) {
      case 0: return new Deed(number, m, trace);
      case 1: return new Birth(number, m, trace);
      case 2: return new Rent(number, m, trace);
      case 3: return new Term(number, m, trace);
      case 4: return new Heir(number, m, trace);
      case 5: return new Wine(number, m, trace);
      default: return new Told(number, m, trace);
    }
  }

  int voice(int thing, int voice, int x) {
    if (!isThing(thing) || !in(voice, 0, 3)) {
      return err(1);
    }
    trace = new ArrayList<>();
    Deed deed = deed(thing);
    try {
      return voice == 0 ? deed.dates(x) : voice == 1 ? deed.ages(x) : voice == 2 ? deed.dues(x) : deed.parts(x);
    } catch (Parted parted) {
      return err(6);
    }
  }

  int body(int i) {
    return in(i, 0, Math.min(30, trace.size()) - 1) ? trace.get(i) : err(2);
  }

  // ---- sheets

  int sheet(int sheet, int width, int n) {
    if (!in(sheet, 0, 3) || (width != 0 && width != 8 && width != 16 && width != 32)) {
      return err(1);
    }
    if (width != 0 && n < 0) {
      return err(3);
    }
    if (width != 0 && n > 24) {
      return err(1);
    }
    sheets[sheet] = width == 0 ? null : new int[n];
    bits[sheet] = width;
    return 1;
  }

  int put(int sheet, int i, int v) {
    if (!in(sheet, 0, 3)) {
      return err(1);
    }
    if (sheets[sheet] == null) {
      return err(2);
    }
    if (!in(i, 0, sheets[sheet].length - 1)) {
      return err(1);
    }
    sheets[sheet][i] = v << (32 - bits[sheet]) >> (32 - bits[sheet]);
    return 1;
  }

  int move(int sheet, int i, int other, int j, int n) {
    if (!in(sheet, 0, 3) || !in(other, 0, 3)) {
      return err(1);
    }
    if (sheets[sheet] == null || sheets[other] == null) {
      return err(2);
    }
    if (bits[sheet] != bits[other]) {
      return err(5);
    }
    if (n < 0 || i < 0 || j < 0 || (long) i + n > sheets[sheet].length || (long) j + n > sheets[other].length) {
      return err(1);
    }
    int[] were = sheets[sheet].clone();
    for (int k = 0; k < n; k++) {
      sheets[other][j + k] = were[i + k];
    }
    return n;
  }

  int papers(int sheet) {
    if (!in(sheet, 0, 3)) {
      return err(1);
    }
    int[] row = sheets[sheet];
    if (row == null) {
      return err(2);
    }
    int came = 0;
    while (2 * came + 1 < row.length && w.papers.size() < 8 && in(row[2 * came], 0, 206)
        && in(row[2 * came + 1], 0, 364)) {
      w.papers.add(new int[] {row[2 * came], row[2 * came + 1]});
      came++;
    }
    return came;
  }

  int judge(int sheet, int county, int year) {
    if (!in(sheet, 0, 3) || !in(county, 0, 3) || !in(year, 0, 199)) {
      return err(1);
    }
    if (sheets[sheet] == null) {
      return err(2);
    }
    int[] names = namesOf(county);
    int i = 0;
    while (i < sheets[sheet].length && year + i < 200 && sheets[sheet][i] == names[year + i]) {
      i++;
    }
    return i;
  }

  // ---- images, what is told

  int image() {
    kept = w.copy();
    return ++images;
  }

  int restore() {
    if (kept == null) {
      return err(2);
    }
    w = kept.copy();
    return w.now;
  }

  int tell(int v) {
    if (w.waiting.size() == 24) {
      return err(4);
    }
    w.waiting.add(v);
    return w.waiting.size();
  }

  int check() {
    List<Integer> told = w.waiting;
    w.waiting = new ArrayList<>();
    for (int i = 0; i < 24; i++) {
      boolean has = i < told.size();
      boolean due = i < w.papers.size();
      if (has != due || has && (!mays(i).contains(told.get(i)) || i > 0 && told.get(i) <= told.get(i - 1))) {
        return i + 1;
      }
    }
    return 0;
  }

  int count(int what) {
    switch (what) {
      case 0: return w.sales.size();
      case 1: return w.things.size();
      case 2: return w.papers.size();
      case 3: return w.now;
      case 4: return w.tape.size();
      case 5: return w.waiting.size();
      case 6: return Math.min(30, trace.size());
      case 7: return w.z;
      case 8: return w.things.stream().mapToInt(this::worth).sum();
      default: return err(1);
    }
  }

  int told(int k) {
    return in(k, 1, 6) ? errors[k] : err(1);
  }
}
