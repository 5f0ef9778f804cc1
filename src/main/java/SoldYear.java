import java.util.Arrays;

/** Counties that name the years of the sky, each in its own way, and what that does to dates, ages and papers. */
public final class SoldYear {
  private static final int LOW = -1000000000;
  private static final int BEYOND = 1;
  private static final int NONE = 2;
  private static final int STATE = 3;
  private static final int FULL = 4;
  private static final int UNLIKE_KIND = 5;
  private static final int PARTED = 6;

  private static final int COUNTIES = 4;
  private static final int YEARS = 200;
  private static final int YEAR_DAYS = 365;
  private static final int DAYS = YEARS * YEAR_DAYS;
  private static final int GREATEST_NAME = 206;
  private static final int GREATEST_SOLD_NAME = 150;
  private static final int GREATEST_LEAST_NAME = 60;
  private static final int GREATEST_PASS = 9999;
  private static final int GREATEST_TERM = 99;
  private static final int SALES = 6;
  private static final int THINGS = 10;
  private static final int PAPERS = 8;
  private static final int TAPE = 60;
  private static final int WAITING = 24;
  private static final int SHEETS = 4;
  private static final int SHEET_NUMBERS = 24;
  private static final int TRACE = 30;

  private static final int DEED = 0;
  private static final int BIRTH = 1;
  private static final int RENT = 2;
  private static final int TERM = 3;
  private static final int HEIR = 4;
  private static final int WINE = 5;
  private static final int KINDS = 7;
  /** The KIND above each KIND; -1: there is none. */
  private static final int[] ABOVE = {-1, DEED, DEED, DEED, BIRTH, BIRTH, DEED};

  private static final int FACTS = 4;
  private static final int KIND = 0;
  private static final int M = 1;
  private static final int COUNTY = 2;
  private static final int BEGAN = 3;

  private static final int AGES_USE = 0;
  private static final int WORTH_USE = 1;
  private static final int USES = 2;

  private static final int VOICES = 4;
  private static final int DATES = 0;
  private static final int AGES = 1;
  private static final int DUES = 2;
  private static final int PARTS = 3;
  /** The BODY that each KIND itself has for dates, ages, dues, parts; 0: it has none. */
  private static final int[] BODIES = {
    10, 11, 12, 13,
    20, 0, 0, 21,
    0, 30, 0, 0,
    0, 0, 40, 0,
    50, 0, 51, 0,
    0, 60, 0, 0,
    70, 71, 0, 0
  };

  private final World world = new World();
  private final World kept = new World();
  private final Scribe scribe = new Scribe();
  private final Choir choir = new Choir();
  private final Sheet[] sheets = new Sheet[SHEETS];
  private final int[] errors = new int[PARTED + 1];
  private int images;

  public SoldYear() {
    for (int i = 0; i < SHEETS; i++) {
      sheets[i] = new Sheet();
    }
  }

  // ---- sales, names, dates

  public int sale(int name, int from, int to) {
    int refusal = saleRefusal(name, from, to);
    if (refusal != 0) {
      return error(refusal);
    }
    world.sky.add(name, from, to);
    return world.sky.count - 1;
  }

  public int saleIs(int sale, int what) {
    if (!isWithin(sale, world.sky.count) || !isWithin(what, 3)) {
      return error(BEYOND);
    }
    if (what == 0) {
      return world.sky.names[sale];
    }
    return what == 1 ? world.sky.sellers[sale] : world.sky.buyers[sale];
  }

  public int undo() {
    if (world.sky.count == 0) {
      return error(STATE);
    }
    world.sky.removeLast();
    return world.sky.count;
  }

  public int name(int county, int year) {
    if (!isWithin(county, COUNTIES) || !isWithin(year, YEARS)) {
      return error(BEYOND);
    }
    return world.sky.nameOf(county, year);
  }

  public int date(int county, int day) {
    if (!isWithin(county, COUNTIES) || !isWithin(day, DAYS)) {
      return error(BEYOND);
    }
    return world.sky.dateOf(county, day);
  }

  public int day(int county, int name, int of, int i) {
    if (!isWithin(county, COUNTIES) || !isDate(name, of) || !isWithin(i, 2)) {
      return error(BEYOND);
    }
    int year = world.sky.yearNamed(county, name, 0);
    if (year >= 0 && i == 1) {
      year = world.sky.yearNamed(county, name, year + 1);
    }
    return year < 0 ? error(NONE) : year * YEAR_DAYS + of;
  }

  public int pass(int n) {
    if (n < 1 || n > GREATEST_PASS) {
      return error(BEYOND);
    }
    if (world.now + n >= DAYS) {
      return error(STATE);
    }
    world.now += n;
    return world.now;
  }

  // ---- things

  public int thing(int km, int county, int began) {
    if (!isWithin(km, KINDS * 10) || !isWithin(county, COUNTIES) || !isWithin(began, DAYS)) {
      return error(BEYOND);
    }
    if (world.things.count >= THINGS) {
      return error(FULL);
    }
    world.things.add(km / 10, km % 10, county, began);
    return world.things.count - 1;
  }

  public int thingIs(int thing, int what) {
    if (!isThing(thing) || !isWithin(what, 6)) {
      return error(BEYOND);
    }
    if (what < FACTS) {
      return world.things.fact(thing, what);
    }
    return what == FACTS ? world.ageNow(thing) : world.worthNow(thing);
  }

  public int as(int thing, int kind) {
    if (!isThing(thing) || !isWithin(kind, KINDS)) {
      return error(BEYOND);
    }
    if (!world.things.isOf(thing, kind)) {
      return error(UNLIKE_KIND);
    }
    return world.things.fact(thing, BEGAN);
  }

  public int set(int thing, int what, int v) {
    if (!isThing(thing) || !isWithin(what, FACTS) || !isWithin(v, factBound(what))) {
      return error(BEYOND);
    }
    return world.things.change(thing, what, v);
  }

  public int age(int thing, int county, int day) {
    if (!isThing(thing) || !isWithin(county, COUNTIES) || !isWithin(day, DAYS)) {
      return error(BEYOND);
    }
    return world.ageOf(thing, county, day);
  }

  public int comes(int thing, int county, int years) {
    if (!isThing(thing) || !isWithin(county, COUNTIES) || !isTerm(years)) {
      return error(BEYOND);
    }
    int day = world.dayOfAge(thing, county, years);
    return day < 0 ? error(NONE) : day;
  }

  public int where(int thing, int years) {
    if (!isThing(thing) || !isTerm(years)) {
      return error(BEYOND);
    }
    int first = -1;
    int best = DAYS;
    for (int county = 0; county < COUNTIES; county++) {
      int day = world.dayOfAge(thing, county, years);
      if (day >= 0 && day < best) {
        best = day;
        first = county;
      }
    }
    return first < 0 ? error(NONE) : first;
  }

  public int twins() {
    int pairs = 0;
    for (int one = 0; one < world.things.count; one++) {
      for (int other = one + 1; other < world.things.count; other++) {
        if (world.areTwins(one, other)) {
          pairs++;
        }
      }
    }
    return pairs;
  }

  // ---- texts

  public int feed(long word, int n) {
    if (n < 1 || n > 8) {
      return error(BEYOND);
    }
    if (world.tapeCount + n > TAPE) {
      return error(FULL);
    }
    for (int i = 0; i < n; i++) {
      world.tape[world.tapeCount] = (int) (word >>> (8 * i)) & 255;
      world.tapeCount++;
    }
    return world.tapeCount;
  }

  public int text(int use) {
    if (!isWithin(use, USES)) {
      return error(BEYOND);
    }
    boolean good = scribe.reads(world.tape, world.tapeCount, use == AGES_USE ? "btm" : "akm");
    world.tapeCount = 0;
    if (!good) {
      return -10 - scribe.at;
    }
    world.lawOf(use).take(scribe.code, scribe.size);
    return 1;
  }

  public int untell(int use) {
    if (!isWithin(use, USES)) {
      return error(BEYOND);
    }
    Law law = world.lawOf(use);
    int before = law.stands ? 1 : 0;
    law.stands = false;
    return before;
  }

  // ---- papers

  public int paper(int name, int of) {
    int refusal = paperRefusal(name, of);
    if (refusal != 0) {
      return error(refusal);
    }
    world.papers.add(name, of);
    return world.papers.count - 1;
  }

  public int paperIs(int paper, int what) {
    if (!isPaper(paper) || !isWithin(what, 3)) {
      return error(BEYOND);
    }
    if (what == 2) {
      return world.papers.listDays(world.sky, paper);
    }
    return what == 0 ? world.papers.names[paper] : world.papers.ofs[paper];
  }

  public int burn() {
    if (world.papers.count == 0) {
      return error(STATE);
    }
    world.papers.count--;
    return world.papers.count;
  }

  public int may(int paper, int i) {
    if (!isPaper(paper) || i < 0) {
      return error(BEYOND);
    }
    int n = world.papers.listDays(world.sky, paper);
    return i < n ? world.papers.days[i] : error(NONE);
  }

  public long rows() {
    return world.papers.countRows(world.sky);
  }

  public int span(int paper, int greatest) {
    if (!isPaper(paper) || !isWithin(greatest, 2)) {
      return error(BEYOND);
    }
    int least = world.papers.leastOf(world.sky, paper);
    if (least < 0) {
      return error(NONE);
    }
    return greatest == 0 ? least : world.papers.greatestOf(world.sky, paper);
  }

  public int clerk() {
    int others = 0;
    for (int paper = 0; paper < world.papers.count; paper++) {
      int before = world.papers.names[paper];
      int rest = world.draw() % 8;
      int step = rest == 0 ? 1 : rest == 1 ? -1 : 0;
      int after = hold(before + step, 0, GREATEST_NAME);
      world.papers.names[paper] = after;
      if (after != before) {
        others++;
      }
    }
    return others;
  }

  public int seed(int v) {
    int before = world.z;
    world.z = v;
    return before;
  }

  // ---- a comet, another sale

  public int comet(int day, int p) {
    if (!isWithin(day, DAYS) || !isTerm(p)) {
      return error(BEYOND);
    }
    world.cometDay = day;
    world.cometYears = p;
    return (DAYS - 1 - day) / (p * YEAR_DAYS) + 1;
  }

  public int claim(int name) {
    if (!isWithin(name, GREATEST_NAME + 1)) {
      return error(BEYOND);
    }
    if (world.cometYears == 0) {
      return error(STATE);
    }
    int bits = 0;
    for (int county = 0; county < COUNTIES; county++) {
      if (world.isCometIn(county, name)) {
        bits |= 1 << county;
      }
    }
    return bits;
  }

  public int breaks(int name, int from, int to) {
    int refusal = saleRefusal(name, from, to);
    return refusal == 0 ? world.breaksBy(name, from, to) : error(refusal);
  }

  public int least(int from, int to) {
    if (!isTrade(from, to)) {
      return error(BEYOND);
    }
    if (world.sky.count >= SALES) {
      return error(FULL);
    }
    int first = 0;
    int fewest = THINGS + 1;
    for (int name = 1; name <= GREATEST_LEAST_NAME; name++) {
      if (world.sky.isFree(name, from, to)) {
        int broken = world.breaksBy(name, from, to);
        if (broken < fewest) {
          fewest = broken;
          first = name;
        }
      }
    }
    return first == 0 ? error(NONE) : first;
  }

  // ---- voices, sheets, images, what is told

  public int voice(int thing, int voice, int x) {
    if (!isThing(thing) || !isWithin(voice, VOICES)) {
      return error(BEYOND);
    }
    int answer = choir.sing(thing, world.things, voice, x);
    return choir.parted ? error(PARTED) : answer;
  }

  public int body(int i) {
    return isWithin(i, choir.traced) ? choir.trace[i] : error(NONE);
  }

  public int sheet(int sheet, int bits, int n) {
    if (!isWithin(sheet, SHEETS) || !isWidth(bits)) {
      return error(BEYOND);
    }
    if (bits != 0 && n < 0) {
      return error(STATE);
    }
    if (bits != 0 && n > SHEET_NUMBERS) {
      return error(BEYOND);
    }
    sheets[sheet].renew(bits, bits == 0 ? 0 : n);
    return 1;
  }

  public int put(int sheet, int i, int v) {
    if (!isWithin(sheet, SHEETS)) {
      return error(BEYOND);
    }
    if (sheets[sheet].bits == 0) {
      return error(NONE);
    }
    if (!isWithin(i, sheets[sheet].count)) {
      return error(BEYOND);
    }
    sheets[sheet].write(i, v);
    return 1;
  }

  public int move(int sheet, int i, int other, int j, int n) {
    if (!isWithin(sheet, SHEETS) || !isWithin(other, SHEETS)) {
      return error(BEYOND);
    }
    Sheet source = sheets[sheet];
    Sheet target = sheets[other];
    if (source.bits == 0 || target.bits == 0) {
      return error(NONE);
    }
    if (source.bits != target.bits) {
      return error(UNLIKE_KIND);
    }
    if (!source.holds(i, n) || !target.holds(j, n)) {
      return error(BEYOND);
    }
    System.arraycopy(source.row, i, target.row, j, n);
    return n;
  }

  public int papers(int sheet) {
    if (!isWithin(sheet, SHEETS)) {
      return error(BEYOND);
    }
    Sheet source = sheets[sheet];
    if (source.bits == 0) {
      return error(NONE);
    }
    int came = 0;
    for (int i = 0; i + 1 < source.count; i += 2) {
      if (paperRefusal(source.row[i], source.row[i + 1]) != 0) {
        return came;
      }
      world.papers.add(source.row[i], source.row[i + 1]);
      came++;
    }
    return came;
  }

  public int judge(int sheet, int county, int year) {
    if (!isWithin(sheet, SHEETS) || !isWithin(county, COUNTIES) || !isWithin(year, YEARS)) {
      return error(BEYOND);
    }
    Sheet law = sheets[sheet];
    if (law.bits == 0) {
      return error(NONE);
    }
    for (int i = 0; i < law.count; i++) {
      if (year + i >= YEARS || law.row[i] != world.sky.nameOf(county, year + i)) {
        return i;
      }
    }
    return law.count;
  }

  public int image() {
    kept.become(world);
    images++;
    return images;
  }

  public int restore() {
    if (images == 0) {
      return error(NONE);
    }
    world.become(kept);
    return world.now;
  }

  public int tell(int v) {
    if (world.waitingCount >= WAITING) {
      return error(FULL);
    }
    world.waiting[world.waitingCount] = v;
    world.waitingCount++;
    return world.waitingCount;
  }

  public int check() {
    int n = world.waitingCount;
    world.waitingCount = 0;
    int most = Math.max(n, world.papers.count);
    for (int i = 0; i < most; i++) {
      if (i >= n || i >= world.papers.count) {
        return 1 + i;
      }
      boolean late = i == 0 || world.waiting[i] > world.waiting[i - 1];
      if (!late || !world.papers.mayBe(world.sky, i, world.waiting[i])) {
        return 1 + i;
      }
    }
    return 0;
  }

  public int count(int what) {
    switch (what) {
      case 0: return world.sky.count;
      case 1: return world.things.count;
      case 2: return world.papers.count;
      case 3: return world.now;
      case 4: return world.tapeCount;
      case 5: return world.waitingCount;
      case 6: return choir.traced;
      case 7: return world.z;
      case 8: return world.worthOfAll();
      default: return error(BEYOND);
    }
  }

  public int told(int k) {
    return k >= BEYOND && k <= PARTED ? errors[k] : error(BEYOND);
  }

  // ---- what the acts ask of their arguments

  private int error(int k) {
    errors[k]++;
    return LOW - k;
  }

  private int saleRefusal(int name, int from, int to) {
    if (name < 1 || name > GREATEST_SOLD_NAME || !isTrade(from, to)) {
      return BEYOND;
    }
    if (!world.sky.isFree(name, from, to)) {
      return STATE;
    }
    return world.sky.count >= SALES ? FULL : 0;
  }

  private int paperRefusal(int name, int of) {
    if (!isDate(name, of)) {
      return BEYOND;
    }
    return world.papers.count >= PAPERS ? FULL : 0;
  }

  private boolean isThing(int thing) {
    return isWithin(thing, world.things.count);
  }

  private boolean isPaper(int paper) {
    return isWithin(paper, world.papers.count);
  }

  private static boolean isWithin(int v, int bound) {
    return v >= 0 && v < bound;
  }

  private static boolean isTrade(int from, int to) {
    return isWithin(from, COUNTIES) && isWithin(to, COUNTIES) && from != to;
  }

  private static boolean isDate(int name, int of) {
    return isWithin(name, GREATEST_NAME + 1) && isWithin(of, YEAR_DAYS);
  }

  private static boolean isTerm(int years) {
    return years >= 1 && years <= GREATEST_TERM;
  }

  private static boolean isWidth(int bits) {
    return bits == 0 || bits == 8 || bits == 16 || bits == 32;
  }

  private static int factBound(int what) {
    switch (what) {
      case KIND: return KINDS;
      case M: return 10;
      case COUNTY: return COUNTIES;
      default: return DAYS;
    }
  }

  private static int hold(int v, int low, int high) {
    return Math.max(low, Math.min(high, v));
  }

  /** The SALES, and the NAMES that they leave to the YEARS of each COUNTY. */
  private static final class Sky {
    private final int[] names = new int[SALES];
    private final int[] sellers = new int[SALES];
    private final int[] buyers = new int[SALES];
    /** The numbers of the SALES by their NAMES: a YEAR's NAME is found by going through them upwards. */
    private final int[] order = new int[SALES];
    private int count;

    private boolean isFree(int name, int from, int to) {
      for (int i = 0; i < count; i++) {
        if (names[i] == name && (hasPart(i, from) || hasPart(i, to))) {
          return false;
        }
      }
      return true;
    }

    private boolean hasPart(int sale, int county) {
      return sellers[sale] == county || buyers[sale] == county;
    }

    private int partsOf(int county) {
      int parts = 0;
      for (int i = 0; i < count; i++) {
        if (hasPart(i, county)) {
          parts++;
        }
      }
      return parts;
    }

    private void add(int name, int from, int to) {
      if (count >= SALES) {
        return;
      }
      int place = count;
      for (; place > 0 && names[order[place - 1]] > name; place--) {
        order[place] = order[place - 1];
      }
      order[place] = count;
      names[count] = name;
      sellers[count] = from;
      buyers[count] = to;
      count++;
    }

    private void removeLast() {
      int left = 0;
      for (int i = 0; i < count; i++) {
        if (order[i] != count - 1) {
          order[left] = order[i];
          left++;
        }
      }
      count = left;
    }

    private int nameOf(int county, int year) {
      int name = year;
      for (int i = 0; i < count; i++) {
        int sale = order[i];
        if (sellers[sale] == county && name >= names[sale]) {
          name++;
        } else if (buyers[sale] == county && name > names[sale]) {
          name--;
        }
      }
      return name;
    }

    private int dateOf(int county, int day) {
      return nameOf(county, day / YEAR_DAYS) * 1000 + day % YEAR_DAYS;
    }

    /** The first YEAR of that NAME from one on, or -1. Each SALE moves a NAME by one YEAR at most. */
    private int yearNamed(int county, int name, int from) {
      int last = Math.min(YEARS - 1, name + SALES);
      for (int year = Math.max(from, name - SALES); year <= last; year++) {
        if (nameOf(county, year) == name) {
          return year;
        }
      }
      return -1;
    }

    private boolean isNamedAnywhere(int name, int year) {
      for (int county = 0; county < COUNTIES; county++) {
        if (nameOf(county, year) == name) {
          return true;
        }
      }
      return false;
    }

    /** How many unlike NAMES a COUNTY gives the YEARS from one to another, less 1. */
    private int turnsOfName(int county, int first, int last) {
      int low = nameOf(county, first);
      int high = nameOf(county, last);
      int turns = high - low;
      for (int i = 0; i < count; i++) {
        if (sellers[i] == county && names[i] > low && names[i] < high) {
          turns--;
        }
      }
      return turns;
    }

    private void become(Sky other) {
      System.arraycopy(other.names, 0, names, 0, SALES);
      System.arraycopy(other.sellers, 0, sellers, 0, SALES);
      System.arraycopy(other.buyers, 0, buyers, 0, SALES);
      System.arraycopy(other.order, 0, order, 0, SALES);
      count = other.count;
    }
  }

  /** The THINGS: KIND, m, COUNTY and the DAY on which it BEGAN, one behind the other. */
  private static final class Roll {
    private final int[] facts = new int[THINGS * FACTS];
    private int count;

    private void add(int kind, int m, int county, int began) {
      if (count >= THINGS) {
        return;
      }
      facts[count * FACTS + KIND] = kind;
      facts[count * FACTS + M] = m;
      facts[count * FACTS + COUNTY] = county;
      facts[count * FACTS + BEGAN] = began;
      count++;
    }

    private int fact(int thing, int what) {
      int place = thing * FACTS + what;
      return isWithin(place, facts.length) ? facts[place] : 0;
    }

    private int change(int thing, int what, int v) {
      int before = fact(thing, what);
      int place = thing * FACTS + what;
      if (isWithin(place, facts.length)) {
        facts[place] = v;
      }
      return before;
    }

    private boolean isOf(int thing, int kind) {
      int own = fact(thing, KIND);
      for (int i = 0; i < KINDS && isWithin(own, KINDS); i++) {
        if (own == kind) {
          return true;
        }
        own = ABOVE[own];
      }
      return false;
    }

    private void become(Roll other) {
      System.arraycopy(other.facts, 0, facts, 0, facts.length);
      count = other.count;
    }
  }

  /** The TEXT of a USE, worked out with a stack: a number pushes itself, -1 to -3 a NAME, below that minus a sign. */
  private static final class Law {
    private final int[] code = new int[TAPE];
    private final int[] stack = new int[TAPE];
    private int size;
    private boolean stands;

    private void take(int[] from, int n) {
      size = Math.min(n, Math.min(TAPE, from.length));
      System.arraycopy(from, 0, code, 0, size);
      stands = true;
    }

    private int value(int first, int second, int third) {
      int top = 0;
      for (int i = 0; i < size; i++) {
        int c = code[i];
        if (c == -'!') {
          if (top > 0) {
            stack[top - 1] = stack[top - 1] == 0 ? 1 : 0;
          }
        } else if (c < -3) {
          if (top > 1) {
            top--;
            stack[top - 1] = joined(-c, stack[top - 1], stack[top]);
          }
        } else if (top < TAPE) {
          stack[top] = c >= 0 ? c : c == -1 ? first : c == -2 ? second : third;
          top++;
        }
      }
      return stack[0];
    }

    private static int joined(int sign, int left, int right) {
      switch (sign) {
        case '|': return left != 0 || right != 0 ? 1 : 0;
        case '&': return left != 0 && right != 0 ? 1 : 0;
        case '<': return left < right ? 1 : 0;
        case '=': return left == right ? 1 : 0;
        case '>': return left > right ? 1 : 0;
        case '+': return left + right;
        case '-': return left - right;
        case '*': return left * right;
        case '/': return right == 0 ? 0 : left / right;
        case '%': return right == 0 ? 0 : left % right;
        default: return 0;
      }
    }

    private void become(Law other) {
      take(other.code, other.size);
      stands = other.stands;
    }
  }

  /** Reads THE TAPE. Where it stops without success is the FAULT, as it never goes on from a byte that doesn't fit. */
  private static final class Scribe {
    private static final int LEVELS = 5;
    private static final int COMPARING = 2;
    private static final int OPEN = 5;

    private final int[] tape = new int[TAPE];
    private final int[] code = new int[TAPE];
    private int size;
    private int end;
    private int at;
    private String names = "";

    private boolean reads(int[] bytes, int n, String of) {
      end = Math.min(n, Math.min(TAPE, bytes.length));
      System.arraycopy(bytes, 0, tape, 0, end);
      names = of;
      at = 0;
      size = 0;
      return readChain(0, 0) && at == end;
    }

    /** A row of parts joined by the signs of a level: 0 a T to 4 a P; what is above is a Q. */
    private boolean readChain(int level, int open) {
      if (level >= LEVELS) {
        return readOne(open);
      }
      boolean good = readChain(level + 1, open);
      int most = level == COMPARING ? 1 : TAPE;
      for (int i = 0; i < most && good && isSignOf(level); i++) {
        int sign = tape[at];
        at++;
        good = readChain(level + 1, open);
        write(-sign);
      }
      return good;
    }

    private boolean isSignOf(int level) {
      if (at >= end) {
        return false;
      }
      switch (level) {
        case 0: return tape[at] == '|';
        case 1: return tape[at] == '&';
        case COMPARING: return tape[at] == '<' || tape[at] == '=' || tape[at] == '>';
        case 3: return tape[at] == '+' || tape[at] == '-';
        default: return tape[at] == '*' || tape[at] == '/' || tape[at] == '%';
      }
    }

    /** A Q. */
    private boolean readOne(int open) {
      if (at >= end) {
        return false;
      }
      int c = tape[at];
      if (isDigit(c)) {
        readNumber();
        return true;
      }
      int name = names.indexOf((char) c);
      if (name >= 0) {
        at++;
        write(-1 - name);
        return true;
      }
      if (open >= OPEN || (c != '!' && c != '(')) {
        return false;
      }
      at++;
      return c == '!' ? readNot(open + 1) : readBrackets(open + 1);
    }

    private void readNumber() {
      int v = 0;
      for (int i = 0; i < 4 && at < end && isDigit(tape[at]); i++) {
        v = v * 10 + tape[at] - '0';
        at++;
      }
      write(v);
    }

    private boolean readNot(int open) {
      boolean good = readOne(open);
      write(-'!');
      return good;
    }

    private boolean readBrackets(int open) {
      if (!readChain(0, open) || at >= end || tape[at] != ')') {
        return false;
      }
      at++;
      return true;
    }

    private void write(int c) {
      if (size < TAPE) {
        code[size] = c;
        size++;
      }
    }

    private static boolean isDigit(int c) {
      return c >= '0' && c <= '9';
    }
  }

  /** The PAPERS, and how they can stand in order. */
  private static final class Pile {
    /** Two YEARS of a NAME in each COUNTY at most. */
    private static final int MOST_DAYS = 2 * COUNTIES;

    private final int[] names = new int[PAPERS];
    private final int[] ofs = new int[PAPERS];
    private int count;
    private final int[] days = new int[MOST_DAYS];
    private final long[] ways = new long[MOST_DAYS];
    private final int[] daysAhead = new int[MOST_DAYS];
    private final long[] waysAhead = new long[MOST_DAYS];

    private void add(int name, int of) {
      if (count < PAPERS) {
        names[count] = name;
        ofs[count] = of;
        count++;
      }
    }

    /** Lists MAY of a PAPER in days, and tells how many there are. */
    private int listDays(Sky sky, int paper) {
      int n = 0;
      int last = Math.min(YEARS - 1, names[paper] + SALES);
      for (int year = Math.max(0, names[paper] - SALES); year <= last; year++) {
        if (n < MOST_DAYS && sky.isNamedAnywhere(names[paper], year)) {
          days[n] = year * YEAR_DAYS + ofs[paper];
          n++;
        }
      }
      return n;
    }

    private boolean mayBe(Sky sky, int paper, int day) {
      return isWithin(day, DAYS) && day % YEAR_DAYS == ofs[paper]
          && sky.isNamedAnywhere(names[paper], day / YEAR_DAYS);
    }

    /** For each DAY of a PAPER, in how many ways the ones up to it stand in order if it is that DAY. */
    private long countRows(Sky sky) {
      daysAhead[0] = -1;
      waysAhead[0] = 1;
      int ahead = 1;
      for (int paper = 0; paper < count; paper++) {
        int n = listDays(sky, paper);
        for (int i = 0; i < n; i++) {
          ways[i] = waysBefore(days[i], ahead);
        }
        System.arraycopy(days, 0, daysAhead, 0, n);
        System.arraycopy(ways, 0, waysAhead, 0, n);
        ahead = n;
      }
      return waysBefore(DAYS, ahead);
    }

    private long waysBefore(int day, int ahead) {
      long sum = 0;
      for (int i = 0; i < ahead; i++) {
        if (daysAhead[i] < day) {
          sum += waysAhead[i];
        }
      }
      return sum;
    }

    /** The least DAY of a PAPER in any of ROWS: each takes its first one behind the PAPER ahead. -1: no ROWS. */
    private int leastOf(Sky sky, int paper) {
      int answer = -1;
      int day = -1;
      for (int i = 0; i < count; i++) {
        int n = listDays(sky, i);
        int next = 0;
        while (next < n && days[next] <= day) {
          next++;
        }
        if (next >= n) {
          return -1;
        }
        day = days[next];
        answer = i == paper ? day : answer;
      }
      return answer;
    }

    /** As leastOf, from the last PAPER back. */
    private int greatestOf(Sky sky, int paper) {
      int answer = -1;
      int day = DAYS;
      for (int i = count - 1; i >= 0; i--) {
        int next = listDays(sky, i) - 1;
        while (next >= 0 && days[next] >= day) {
          next--;
        }
        if (next < 0) {
          return -1;
        }
        day = days[next];
        answer = i == paper ? day : answer;
      }
      return answer;
    }

    private void become(Pile other) {
      System.arraycopy(other.names, 0, names, 0, PAPERS);
      System.arraycopy(other.ofs, 0, ofs, 0, PAPERS);
      count = other.count;
    }
  }

  /** All that an IMAGE keeps. */
  private static final class World {
    private final Sky sky = new Sky();
    private final Roll things = new Roll();
    private final Pile papers = new Pile();
    private final Law agesLaw = new Law();
    private final Law worthLaw = new Law();
    private final int[] tape = new int[TAPE];
    private int tapeCount;
    private final int[] waiting = new int[WAITING];
    private int waitingCount;
    private int now;
    private int z = 1;
    private int cometDay;
    /** 0: there is no COMET. */
    private int cometYears;
    private final int[] agesAhead = new int[THINGS];

    private Law lawOf(int use) {
      return use == WORTH_USE ? worthLaw : agesLaw;
    }

    private int draw() {
      z = z * 1103515245 + 12345;
      return z >>> 8;
    }

    private int ageNow(int thing) {
      return ageOf(thing, things.fact(thing, COUNTY), now);
    }

    private int ageOf(int thing, int county, int day) {
      int began = things.fact(thing, BEGAN);
      if (day < began) {
        return 0;
      }
      int bySky = (day - began) / YEAR_DAYS;
      int m = things.fact(thing, M);
      switch (things.fact(thing, KIND)) {
        case DEED: return bySky;
        case BIRTH: return ageByBook(thing, county, day);
        case RENT: return sky.turnsOfName(county, began / YEAR_DAYS, day / YEAR_DAYS);
        case TERM: return bySky + m;
        case HEIR: return Math.max(0, ageByBook(thing, county, day) - m);
        case WINE: return ageByBook(thing, county, day) + sky.partsOf(county);
        default: return ageByLaw(ageByBook(thing, county, day), bySky, m);
      }
    }

    private int ageByBook(int thing, int county, int day) {
      int began = things.fact(thing, BEGAN);
      int years = sky.nameOf(county, day / YEAR_DAYS)
          - sky.nameOf(things.fact(thing, COUNTY), began / YEAR_DAYS);
      if (day % YEAR_DAYS < began % YEAR_DAYS) {
        years--;
      }
      return Math.max(0, years);
    }

    private int ageByLaw(int byBook, int bySky, int m) {
      return agesLaw.stands ? hold(agesLaw.value(byBook, bySky, m), 0, 999) : Math.max(byBook, bySky);
    }

    /**
     * The first DAY on which AGE is that or more, or -1. AGE is another one at most where a YEAR begins and on the DAY
     * of the YEAR on which it BEGAN, and it may go down as well as up: a NAME that is there twice holds it back.
     */
    private int dayOfAge(int thing, int county, int years) {
      int began = things.fact(thing, BEGAN);
      if (ageOf(thing, county, began) >= years) {
        return began;
      }
      for (int year = began / YEAR_DAYS + 1; year < YEARS; year++) {
        int first = year * YEAR_DAYS;
        if (ageOf(thing, county, first) >= years) {
          return first;
        }
        int birthday = first + began % YEAR_DAYS;
        if (ageOf(thing, county, birthday) >= years) {
          return birthday;
        }
      }
      return -1;
    }

    private int worthNow(int thing) {
      int years = ageNow(thing);
      int m = things.fact(thing, M);
      int worth = worthLaw.stands ? worthLaw.value(years, things.fact(thing, KIND), m) : years * 10 + m;
      return hold(worth, -9999, 9999);
    }

    private int worthOfAll() {
      int sum = 0;
      for (int thing = 0; thing < things.count; thing++) {
        sum += worthNow(thing);
      }
      return sum;
    }

    private boolean areTwins(int one, int other) {
      int county = things.fact(one, COUNTY);
      int day = things.fact(one, BEGAN);
      int otherDay = things.fact(other, BEGAN);
      return things.isOf(one, BIRTH) && things.isOf(other, BIRTH)
          && things.fact(other, COUNTY) == county && otherDay != day
          && sky.dateOf(county, day) == sky.dateOf(county, otherDay);
    }

    private boolean isCometIn(int county, int name) {
      if (cometYears < 1) {
        return false;
      }
      for (int year = cometDay / YEAR_DAYS; year < YEARS; year += cometYears) {
        if (sky.nameOf(county, year) == name) {
          return true;
        }
      }
      return false;
    }

    /** The SALE is made, looked at and undone: nobody sees it in between. */
    private int breaksBy(int name, int from, int to) {
      if (sky.count >= SALES) {
        return 0;
      }
      for (int thing = 0; thing < things.count; thing++) {
        agesAhead[thing] = ageNow(thing);
      }
      sky.add(name, from, to);
      int broken = 0;
      for (int thing = 0; thing < things.count; thing++) {
        if (ageNow(thing) != agesAhead[thing]) {
          broken++;
        }
      }
      sky.removeLast();
      return broken;
    }

    private void become(World other) {
      sky.become(other.sky);
      things.become(other.things);
      papers.become(other.papers);
      agesLaw.become(other.agesLaw);
      worthLaw.become(other.worthLaw);
      System.arraycopy(other.tape, 0, tape, 0, TAPE);
      tapeCount = other.tapeCount;
      System.arraycopy(other.waiting, 0, waiting, 0, WAITING);
      waitingCount = other.waitingCount;
      now = other.now;
      z = other.z;
      cometDay = other.cometDay;
      cometYears = other.cometYears;
    }
  }

  /** The VOICES of a THING, and THE TRACE of the latest one. */
  private static final class Choir {
    /** Far above the eight or so BODIES that can be open at once. */
    private static final int MOST_OPEN = 40;

    private final int[] trace = new int[TRACE];
    private int traced;
    private boolean parted;
    private int number;
    private int kind;
    private int m;

    private int sing(int thing, Roll things, int voice, int x) {
      traced = 0;
      parted = false;
      number = thing;
      kind = things.fact(thing, KIND);
      m = things.fact(thing, M);
      return call(kind, voice, x, 0);
    }

    /** The BODY of that KIND, or of the next one above that has one. */
    private int call(int from, int voice, int x, int open) {
      int holder = from;
      for (int i = 0; i < KINDS && isWithin(holder, KINDS); i++) {
        int found = BODIES[holder * VOICES + voice];
        if (found != 0) {
          return open < MOST_OPEN ? work(found, x, open + 1) : 0;
        }
        holder = ABOVE[holder];
      }
      return 0;
    }

    private int work(int found, int x, int open) {
      note(found);
      switch (found) {
        case 10: return x + number;
        case 11: return call(kind, DATES, x, open) * 2;
        case 12: return call(kind, AGES, x, open) - m;
        case 13: return part(x);
        case 20: return call(ABOVE[BIRTH], DATES, x, open) - 7;
        case 21: return partAndAge(x, open);
        case 30: return 0 - call(ABOVE[RENT], AGES, x, open);
        case 40: return call(ABOVE[TERM], DUES, x / 2, open);
        case 50: return call(ABOVE[HEIR], DATES, x, open) * 3;
        case 51: return call(ABOVE[HEIR], DUES, x, open) ^ number;
        case 60: return call(ABOVE[WINE], AGES, x + 1, open);
        case 70: return 4;
        case 71: return call(DEED, AGES, x, open) + m;
        default: return 0;
      }
    }

    private void note(int found) {
      if (traced < TRACE) {
        trace[traced] = found;
        traced++;
      }
    }

    private int part(int x) {
      int by = m - number;
      if (by == 0) {
        parted = true;
        return 0;
      }
      return x / by;
    }

    /** What is PARTED ends the VOICE: the BODY for ages doesn't begin any more. */
    private int partAndAge(int x, int open) {
      int share = call(ABOVE[BIRTH], PARTS, x, open);
      return parted ? 0 : share + call(kind, AGES, 1, open);
    }
  }

  /** A row of numbers of 8, 16 or 32 bits, signed as Java's byte, short and int are; 0 bits: it is missing. */
  private static final class Sheet {
    private final int[] row = new int[SHEET_NUMBERS];
    private int bits;
    private int count;

    private void renew(int width, int n) {
      bits = width;
      count = n;
      Arrays.fill(row, 0);
    }

    private void write(int i, int v) {
      if (isWithin(i, count)) {
        row[i] = bits == 8 ? (byte) v : bits == 16 ? (short) v : v;
      }
    }

    private boolean holds(int i, int n) {
      return n >= 0 && n <= count && i >= 0 && i <= count - n;
    }
  }
}
