import java.util.Arrays;

/** Ransom by the piece: see README.md for how it is used. */
public final class RansomPieces {
  public static final int NONE = -1;

  private static final int THINGS = 8;
  private static final int SETS = 256;
  private static final int PASSES = 6;
  private static final int CAVES = 8;
  private static final int LAST_WEEK = 60;
  private static final int MOST_MUD = 5;
  private static final int MOST_WEAR = 99;
  private static final int MOST_CREDIT = 9999;
  private static final int MOST_CRIES = 99;
  private static final int MOST_PRICE = 9999;
  private static final int MOST_AT_ONCE = 20;
  private static final int MOST_WORTH = 999;
  private static final int FIRST_THAW = 30;
  private static final int TAPE = 400;
  private static final int BOOK = 120;
  private static final int BOOK_PARTS = 5;
  private static final int LAW_LINES = 16;
  private static final int HILL_LINES = 24;
  private static final int AFTER_LINES = 12;
  private static final int DEEDS = 60;
  private static final int AGAIN_OPEN = 4;
  private static final int MOST_AGAIN = 9;
  private static final int OPEN = 8;
  private static final int LETTERS = 8;
  private static final int NOTES = 12;
  private static final int UNDO = 6;
  /** Answers of "the i-th of .." are asked for by this and i. */
  private static final int LISTED = 10;

  private static final int HELD = 0;
  private static final int HOME = 1;
  private static final int RIVAL = 2;

  private static final int PAID_LINE = 0;
  private static final int CRY_LINE = 1;
  private static final int RIVAL_LINE = 2;

  /** The most that may be told, by set()'s what. */
  private static final int[] MOST_TOLD = {99999, 9999, 99, 1000, 99, 60, 999, 99};

  private static final int FAULT_PLACE = 1;
  private static final int FAULT_BOUNDS = 2;
  private static final int FAULT_TOO_MANY = 3;
  private static final int FAULT_DEEDS = 4;

  private static final int TOKEN_END = 0;
  private static final int TOKEN_NUMBER = 1;
  private static final int TOKEN_NONE = 2;
  private static final String SIGNS = ";+-*/()<=>";

  /** The first nine stand in the order of what a LAW is given, so that a word's number is its place there. */
  private static final String WORDS =
      "thing worth wears week cries rival credit home last price wear eat gain when or and not pass from to mud cave by after pay cry wait again ";
  private static final int WORD = 256;
  private static final int GIVEN = 9;
  private static final int GIVEN_THING = 0;
  private static final int GIVEN_WORTH = 1;
  private static final int GIVEN_WEARS = 2;
  private static final int GIVEN_WEEK = 3;
  private static final int GIVEN_CRIES = 4;
  private static final int GIVEN_RIVAL = 5;
  private static final int GIVEN_CREDIT = 6;
  private static final int GIVEN_HOME = 7;
  private static final int GIVEN_LAST = 8;
  private static final int WORD_PRICE = WORD + 9;
  private static final int WORD_WEAR = WORD + 10;
  private static final int WORD_EAT = WORD + 11;
  private static final int WORD_GAIN = WORD + 12;
  private static final int WORD_WHEN = WORD + 13;
  private static final int WORD_OR = WORD + 14;
  private static final int WORD_AND = WORD + 15;
  private static final int WORD_NOT = WORD + 16;
  private static final int WORD_PASS = WORD + 17;
  private static final int WORD_FROM = WORD + 18;
  private static final int WORD_TO = WORD + 19;
  private static final int WORD_MUD = WORD + 20;
  private static final int WORD_CAVE = WORD + 21;
  private static final int WORD_BY = WORD + 22;
  private static final int WORD_AFTER = WORD + 23;
  private static final int WORD_PAY = WORD + 24;
  private static final int WORD_CRY = WORD + 25;
  private static final int WORD_WAIT = WORD + 26;
  private static final int WORD_AGAIN = WORD + 27;
  /** In a LAW's code a NUMBER stands as this and itself, above every word and sign. */
  private static final int CODE_NUMBER = 1000;

  private final World world;
  private final World image;
  private boolean imageTaken;
  private final Trail trail;
  private final int[] tape;
  private int tapeLength;
  private final Reader reader;
  private final Orders ways;
  private final Least thought;

  public RansomPieces() {
    world = new World();
    image = new World();
    imageTaken = false;
    trail = new Trail();
    tape = new int[TAPE];
    tapeLength = 0;
    reader = new Reader();
    ways = new Orders(world);
    thought = new Least(world);
  }

  public int state(int v) {
    int was = world.fate.state;
    world.fate.state = v;
    forgetDeeds();
    return was;
  }

  public int thing(int worth) {
    if (!within(worth, 0, MOST_WORTH) || world.things >= THINGS || world.isHimHome()) {
      return NONE;
    }
    int number = world.addThing(worth);
    forgetDeeds();
    return number;
  }

  public boolean set(int what, int who, int v) {
    if (!within(what, 0, MOST_TOLD.length - 1) || !within(v, 0, MOST_TOLD[what])) {
      return false;
    }
    if (what >= 6 && !within(who, 0, world.things - 1)) {
      return false;
    }
    tell(what, who, v);
    forgetDeeds();
    return true;
  }

  private void tell(int what, int who, int v) {
    switch (what) {
      case 0: world.fate.gold = v; break;
      case 1: world.fate.credit = v; break;
      case 2: world.fate.cries = v; break;
      case 3: world.rival = v; break;
      case 4: world.cards = v; break;
      case 5: world.thaw = v; break;
      case 6: world.worth[who] = v; break;
      default: world.fate.wear[who] = v; break;
    }
  }

  public int feed(int a, int b, int c, int d, int e) {
    if (tapeLength + 20 > TAPE) {
      return NONE;
    }
    feedOne(a);
    feedOne(b);
    feedOne(c);
    feedOne(d);
    feedOne(e);
    return tapeLength;
  }

  private void feedOne(int number) {
    for (int shift = 24; shift >= 0; shift -= 8) {
      if (tapeLength < TAPE) {
        tape[tapeLength] = number >>> shift & 255;
        tapeLength++;
      }
    }
  }

  public boolean end(int n) {
    if (!within(n, 0, tapeLength)) {
      return false;
    }
    tapeLength = n;
    return true;
  }

  public int text(int k) {
    reader.split(tape, tapeLength, world.things);
    tapeLength = 0;
    switch (k) {
      case 0: reader.readLaw(true); break;
      case 1: reader.readLaw(false); break;
      case 2: reader.readHills(); break;
      case 3: reader.readAfter(); break;
      case 4: reader.readPlan(); break;
      default: return NONE;
    }
    return reader.fault == 0 ? takeText(k) : NONE;
  }

  private int takeText(int k) {
    if (k > 1) {
      forgetDeeds();
    }
    thought.forget();
    switch (k) {
      case 0: world.prices.become(reader.law); return world.prices.lines;
      case 1: world.weekly.become(reader.law); return world.weekly.lines;
      case 2: world.hills.become(reader.hills); return world.hills.lines;
      case 3: world.tellAfter(reader.after, reader.afterLines); return world.afterLines;
      default: world.plan.become(reader.plan); return world.plan.deeds;
    }
  }

  public int fault(int what) {
    if (what == 0) {
      return reader.fault;
    }
    return what == 1 ? reader.faultPlace : NONE;
  }

  public int pay(int thing, int pass) {
    if (!world.canPay(thing, pass)) {
      return NONE;
    }
    rememberDeed();
    return world.payFor(thing, pass);
  }

  public int cry(int n) {
    if (!within(n, 1, MOST_AT_ONCE)) {
      return NONE;
    }
    rememberDeed();
    world.cryBy(n);
    return world.fate.cries;
  }

  public int weeks(int n) {
    if (!within(n, 1, MOST_AT_ONCE) || world.fate.week + n > LAST_WEEK) {
      return NONE;
    }
    int taken = 0;
    for (int i = 0; i < n; i++) {
      // each WEEK is a deed of its own, so UNDO takes back the latest alone
      rememberDeed();
      if (world.passWeek()) {
        taken++;
      }
    }
    return taken;
  }

  public int goes() {
    rememberDeed();
    int done = 0;
    for (int i = 0; i < world.plan.deeds && i < DEEDS; i++) {
      if (world.doDeed(world.plan.kind[i], world.plan.whom[i], world.plan.pass[i])) {
        done++;
      }
    }
    return done;
  }

  public int of(int thing, int what) {
    if (!within(thing, 0, world.things - 1)) {
      return NONE - 1;
    }
    switch (what) {
      case 0: return world.worth[thing];
      case 1: return world.fate.wear[thing];
      case 2: return world.fate.how[thing];
      case 3: return world.fate.paid[thing];
      case 4: return world.fate.pass[thing];
      case 5: return world.price(thing);
      case 6: return world.mayCome(thing) ? 1 : 0;
      case 7: return world.after[thing];
      default: return NONE - 1;
    }
  }

  public int mud(int pass, int week) {
    return world.hills.mudIn(pass, week);
  }

  public int book(int i, int what) {
    if (!within(i, 0, world.fate.bookLines - 1) || !within(what, 0, BOOK_PARTS - 1)) {
      return NONE - 1;
    }
    return world.book[i * BOOK_PARTS + what];
  }

  public int least(int what) {
    thought.solve(NONE);
    if (!thought.canBe()) {
      return NONE;
    }
    if (what == 0) {
      return thought.sum;
    }
    if (what == 1) {
      return thought.costOfWaiting();
    }
    if (what < LISTED || what - LISTED > world.thaw - world.fate.week) {
      return NONE;
    }
    return thought.thingOfWeek(what - LISTED);
  }

  public int orders(int what) {
    int many = ways.count();
    if (what == 0) {
      return many;
    }
    return what < LISTED || many == 0 ? NONE : ways.thingAt(what - LISTED);
  }

  public int fits(int a, int b, int week, int mud) {
    if (!within(week, 0, LAST_WEEK) || !within(mud, 0, MOST_MUD)) {
      return NONE;
    }
    if (!world.hills.hasMud(week, mud)) {
      return 0;
    }
    int set = 0;
    for (int i = 0; i < world.things; i++) {
      if (world.fate.how[i] != HOME && within(world.fate.wear[i], a, b)) {
        set |= 1 << i;
      }
    }
    return set;
  }

  public int kept() {
    int set = world.hills.caves();
    for (int i = 0; i < world.things; i++) {
      if (world.fate.how[i] == HOME) {
        set &= world.hills.cavesBy(world.fate.pass[i]);
      }
    }
    return set;
  }

  public int letter(int things) {
    if (!within(things, 0, world.all())) {
      return NONE;
    }
    return world.told.addLetter(things);
  }

  public int letters(int what) {
    int many = world.told.letterOrders();
    if (what == 0) {
      return many;
    }
    return what < LISTED || many == 0 ? NONE : world.told.letterAt(what - LISTED);
  }

  public int sight(int thing, int week, int wear) {
    if (thing == NONE) {
      world.told.sights = 0;
      return 0;
    }
    if (!within(thing, 0, world.things - 1) || !within(week, 0, LAST_WEEK) || !within(wear, 0, MOST_WEAR)) {
      return NONE;
    }
    return world.told.addSight(thing, week, wear);
  }

  public int wrong() {
    return world.told.falseThings(world.fate);
  }

  public int lasts() {
    return world.creditLasts();
  }

  public long cards(int c, int g, int p, int what) {
    if (!within(g, 2, 12) || !within(c, 1, g - 1) || !within(p, 1, 9) || !within(what, 0, 1)) {
      return NONE;
    }
    long won = 0;
    long whole = 0;
    for (int i = 0; i < g; i++) {
      long part = power(10 - p, i) * power(p, g - 1 - i);
      whole += part;
      if (i < c) {
        won += part;
      }
    }
    long common = commonPart(won, whole);
    long asked = what == 0 ? won : whole;
    return common > 0 ? asked / common : asked;
  }

  public int share(int sum, int c, int d, int what) {
    if (!within(sum, 0, 99999) || !within(c, 1, 99) || !within(d, 1, 99)) {
      return NONE;
    }
    int ofFirst = Math.floorDiv(sum * c, c + d);
    int ofSecond = Math.floorDiv(sum * d, c + d);
    switch (what) {
      case 0: return ofFirst;
      case 1: return ofSecond;
      case 2: return sum - ofFirst - ofSecond;
      default: return NONE;
    }
  }

  public int errand(int week, int n) {
    if (week == NONE) {
      world.told.errands = 0;
      return 0;
    }
    if (!within(week, 0, LAST_WEEK) || !within(n, 1, MOST_AT_ONCE)) {
      return NONE;
    }
    return world.told.addErrand(week, n);
  }

  public int messengers(int what) {
    int week = world.told.busiestWeek();
    if (what == 0) {
      return week == NONE ? 0 : world.told.underWay(week);
    }
    return what == 1 ? week : NONE;
  }

  public int hit(int what) {
    if (!within(what, 0, 1)) {
      return NONE;
    }
    thought.findHardest();
    return what == 0 ? thought.hardest : thought.most;
  }

  public boolean undo() {
    if (!trail.goBack(world.fate)) {
      return false;
    }
    thought.forget();
    return true;
  }

  public boolean image(boolean taken) {
    if (taken) {
      image.become(world);
      imageTaken = true;
      return true;
    }
    if (!imageTaken) {
      return false;
    }
    world.become(image);
    forgetDeeds();
    return true;
  }

  public int look(int what) {
    switch (what) {
      case 0: return world.things;
      case 1: return world.homeSet();
      case 2: return world.fate.week;
      case 3: return world.fate.gold;
      case 4: return world.fate.credit;
      case 5: return world.fate.cries;
      case 6: return world.fate.last;
      case 7: return world.fate.bookLines;
      case 8: return world.fate.state;
      case 17: return trail.kept;
      case 20: return world.rival;
      case 21: return world.cards;
      case 22: return world.thaw;
      default: return lookAtTold(what);
    }
  }

  private int lookAtTold(int what) {
    switch (what) {
      case 9: return world.prices.lines;
      case 10: return world.weekly.lines;
      case 11: return world.hills.lines;
      case 12: return world.afterLines;
      case 13: return world.plan.deeds;
      case 14: return world.told.letters;
      case 15: return world.told.sights;
      case 16: return world.told.errands;
      default: return NONE - 999;
    }
  }

  /** Going back past something told would bring back what no longer fits it. */
  private void forgetDeeds() {
    trail.kept = 0;
    thought.forget();
  }

  private void rememberDeed() {
    trail.remember(world.fate);
    thought.forget();
  }

  private static boolean within(int v, int low, int high) {
    return v >= low && v <= high;
  }

  private static int held(int v, int low, int high) {
    return Math.max(low, Math.min(high, v));
  }

  private static long power(int base, int times) {
    long result = 1;
    for (int i = 0; i < times; i++) {
      result *= base;
    }
    return result;
  }

  /** Euclid's way takes under a hundred steps for longs. */
  private static long commonPart(long a, long b) {
    long greater = a;
    long lesser = b;
    for (int i = 0; i < 200 && lesser != 0; i++) {
      long rest = greater % lesser;
      greater = lesser;
      lesser = rest;
    }
    return greater;
  }

  /** What deeds change, apart from all else, since it is this that UNDO brings back. */
  private static final class Fate {
    int state;
    int gold;
    int credit;
    int cries;
    int week;
    int last;
    boolean came;
    int bookLines;
    final int[] wear;
    final int[] how;
    final int[] paid;
    final int[] pass;

    Fate() {
      last = NONE;
      wear = new int[THINGS];
      how = new int[THINGS];
      paid = new int[THINGS];
      pass = new int[THINGS];
      Arrays.fill(pass, NONE);
    }

    void become(Fate other) {
      state = other.state;
      gold = other.gold;
      credit = other.credit;
      cries = other.cries;
      week = other.week;
      last = other.last;
      came = other.came;
      bookLines = other.bookLines;
      System.arraycopy(other.wear, 0, wear, 0, THINGS);
      System.arraycopy(other.how, 0, how, 0, THINGS);
      System.arraycopy(other.paid, 0, paid, 0, THINGS);
      System.arraycopy(other.pass, 0, pass, 0, THINGS);
    }

    /** The STATE's lowest bits hardly change, so the highest 24 are what is drawn. */
    int draw(int m) {
      state = state * 1664525 + 1013904223;
      return m > 0 ? (state >>> 8) % m : 0;
    }
  }

  /** The latest FATES ahead of deeds, in a ring so that nothing is moved or made. */
  private static final class Trail {
    final Fate[] ring;
    int newest;
    int kept;

    Trail() {
      ring = new Fate[UNDO];
      for (int i = 0; i < UNDO; i++) {
        ring[i] = new Fate();
      }
      newest = 0;
      kept = 0;
    }

    void remember(Fate fate) {
      newest = (newest + 1) % UNDO;
      ring[newest].become(fate);
      kept = Math.min(UNDO, kept + 1);
    }

    boolean goBack(Fate fate) {
      if (kept == 0) {
        return false;
      }
      fate.become(ring[newest]);
      newest = (newest + UNDO - 1) % UNDO;
      kept--;
      return true;
    }
  }

  /** A LAW as code for a stack: what stands in it is read once and asked often. */
  private static final class Law {
    int lines;
    int size;
    final int[] word;
    final int[] start;
    final int[] turn;
    final int[] stop;
    final int[] code;
    /** Two for each ( that is open and a few for a sum are the most that ever lie on it. */
    final int[] stack;

    Law() {
      word = new int[LAW_LINES];
      start = new int[LAW_LINES];
      turn = new int[LAW_LINES];
      stop = new int[LAW_LINES];
      code = new int[TAPE];
      stack = new int[4 * OPEN];
    }

    void become(Law other) {
      lines = other.lines;
      size = other.size;
      System.arraycopy(other.word, 0, word, 0, LAW_LINES);
      System.arraycopy(other.start, 0, start, 0, LAW_LINES);
      System.arraycopy(other.turn, 0, turn, 0, LAW_LINES);
      System.arraycopy(other.stop, 0, stop, 0, LAW_LINES);
      System.arraycopy(other.code, 0, code, 0, TAPE);
    }

    void put(int step) {
      if (size < TAPE) {
        code[size] = step;
        size++;
      }
    }

    void addLine(int keyword, int from, int when) {
      if (lines < LAW_LINES) {
        word[lines] = keyword;
        start[lines] = from;
        turn[lines] = when;
        stop[lines] = size;
        lines++;
      }
    }

    boolean asksFor(int keyword) {
      for (int i = 0; i < size; i++) {
        if (code[i] == keyword) {
          return true;
        }
      }
      return false;
    }

    int value(int keyword, int[] given, int without) {
      for (int i = 0; i < lines; i++) {
        if (word[i] == keyword && (turn[i] == stop[i] || run(turn[i], stop[i], given) != 0)) {
          return run(start[i], turn[i], given);
        }
      }
      return without;
    }

    private int run(int from, int to, int[] given) {
      int top = 0;
      for (int i = from; i < to; i++) {
        int step = code[i];
        if (step >= CODE_NUMBER || within(step, WORD, WORD + GIVEN - 1)) {
          if (top < stack.length) {
            stack[top] = step >= CODE_NUMBER ? step - CODE_NUMBER : given[step - WORD];
            top++;
          }
        } else if (step == WORD_NOT) {
          if (top > 0) {
            stack[top - 1] = 1 - stack[top - 1];
          }
        } else if (top > 1) {
          top--;
          stack[top - 1] = joined(step, stack[top - 1], stack[top]);
        }
      }
      return top > 0 ? stack[top - 1] : 0;
    }

    private static int joined(int step, int a, int b) {
      switch (step) {
        case '+': return a + b;
        case '-': return a - b;
        case '*': return a * b;
        case '/': return b == 0 ? 0 : a / b;
        case '<': return a < b ? 1 : 0;
        case '=': return a == b ? 1 : 0;
        case '>': return a > b ? 1 : 0;
        case WORD_AND: return a & b;
        case WORD_OR: return a | b;
        default: return 0;
      }
    }
  }

  /** THE HILLS: lines of passes and of caves in one row, since the first line counts. */
  private static final class Hills {
    int lines;
    /** NONE: the line is a PASS's. */
    final int[] cave;
    final int[] pass;
    final int[] from;
    final int[] to;
    final int[] mud;

    Hills() {
      cave = new int[HILL_LINES];
      pass = new int[HILL_LINES];
      from = new int[HILL_LINES];
      to = new int[HILL_LINES];
      mud = new int[HILL_LINES];
    }

    void become(Hills other) {
      lines = other.lines;
      System.arraycopy(other.cave, 0, cave, 0, HILL_LINES);
      System.arraycopy(other.pass, 0, pass, 0, HILL_LINES);
      System.arraycopy(other.from, 0, from, 0, HILL_LINES);
      System.arraycopy(other.to, 0, to, 0, HILL_LINES);
      System.arraycopy(other.mud, 0, mud, 0, HILL_LINES);
    }

    void addPass(int number, int first, int last, int depth) {
      if (lines < HILL_LINES) {
        cave[lines] = NONE;
        pass[lines] = number;
        from[lines] = first;
        to[lines] = last;
        mud[lines] = depth;
        lines++;
      }
    }

    void addCave(int number, int by) {
      if (lines < HILL_LINES) {
        cave[lines] = number;
        pass[lines] = by;
        lines++;
      }
    }

    int mudIn(int number, int week) {
      for (int i = 0; i < lines; i++) {
        if (cave[i] == NONE && pass[i] == number && within(week, from[i], to[i])) {
          return mud[i];
        }
      }
      return NONE;
    }

    boolean isAnyOpen(int week) {
      for (int i = 0; i < PASSES; i++) {
        if (mudIn(i, week) != NONE) {
          return true;
        }
      }
      return false;
    }

    boolean hasMud(int week, int depth) {
      for (int i = 0; i < PASSES; i++) {
        if (mudIn(i, week) == depth) {
          return true;
        }
      }
      return false;
    }

    int caves() {
      int set = 0;
      for (int i = 0; i < PASSES; i++) {
        set |= cavesBy(i);
      }
      return set;
    }

    int cavesBy(int number) {
      int set = 0;
      for (int i = 0; i < lines; i++) {
        if (cave[i] != NONE && pass[i] == number) {
          set |= 1 << cave[i];
        }
      }
      return set;
    }
  }

  /** A PLAN with every again written out: 60 deeds are the most that it may be. */
  private static final class Plan {
    int deeds;
    final int[] kind;
    final int[] whom;
    final int[] pass;

    Plan() {
      kind = new int[DEEDS];
      whom = new int[DEEDS];
      pass = new int[DEEDS];
    }

    void become(Plan other) {
      deeds = other.deeds;
      System.arraycopy(other.kind, 0, kind, 0, DEEDS);
      System.arraycopy(other.whom, 0, whom, 0, DEEDS);
      System.arraycopy(other.pass, 0, pass, 0, DEEDS);
    }

    /** Counts on past its room, so that the reader sees that there were too many. */
    void addDeed(int word, int number, int by) {
      if (deeds < DEEDS) {
        kind[deeds] = word;
        whom[deeds] = number;
        pass[deeds] = by;
      }
      deeds++;
    }

    void repeat(int from, int times) {
      int length = deeds - from;
      int total = from + length * times;
      for (int i = deeds; length > 0 && i < total && i < DEEDS; i++) {
        kind[i] = kind[i - length];
        whom[i] = whom[i - length];
        pass[i] = pass[i - length];
      }
      deeds = total;
    }
  }

  /** LETTERS, SIGHTS and ERRANDS, which are told without touching what can be undone. */
  private static final class Told {
    int letters;
    int sights;
    int errands;
    final int[] letterSet;
    final int[] sightThing;
    final int[] sightWeek;
    final int[] sightWear;
    final int[] errandWeek;
    final int[] errandLength;

    Told() {
      letterSet = new int[LETTERS];
      sightThing = new int[NOTES];
      sightWeek = new int[NOTES];
      sightWear = new int[NOTES];
      errandWeek = new int[NOTES];
      errandLength = new int[NOTES];
    }

    void become(Told other) {
      letters = other.letters;
      sights = other.sights;
      errands = other.errands;
      System.arraycopy(other.letterSet, 0, letterSet, 0, LETTERS);
      System.arraycopy(other.sightThing, 0, sightThing, 0, NOTES);
      System.arraycopy(other.sightWeek, 0, sightWeek, 0, NOTES);
      System.arraycopy(other.sightWear, 0, sightWear, 0, NOTES);
      System.arraycopy(other.errandWeek, 0, errandWeek, 0, NOTES);
      System.arraycopy(other.errandLength, 0, errandLength, 0, NOTES);
    }

    int addLetter(int set) {
      if (letters >= LETTERS) {
        return NONE;
      }
      letterSet[letters] = set;
      letters++;
      return letters - 1;
    }

    int addSight(int thing, int week, int wear) {
      if (sights >= NOTES) {
        return NONE;
      }
      sightThing[sights] = thing;
      sightWeek[sights] = week;
      sightWear[sights] = wear;
      sights++;
      return sights;
    }

    int addErrand(int week, int length) {
      if (errands >= NOTES) {
        return NONE;
      }
      errandWeek[errands] = week;
      errandLength[errands] = length;
      errands++;
      return errands;
    }

    /** Sets within one another leave but the same ones free: each goes ahead of so many like it. */
    int letterOrders() {
      int many = 1;
      for (int i = 0; i < letters; i++) {
        int alike = 1;
        for (int j = 0; j < i; j++) {
          int both = letterSet[i] & letterSet[j];
          if (both != letterSet[i] && both != letterSet[j]) {
            return 0;
          }
          if (letterSet[i] == letterSet[j]) {
            alike++;
          }
        }
        many *= alike;
      }
      return many;
    }

    /** Among sets that lie within one another the greater one is ahead. */
    int letterAt(int place) {
      for (int i = 0; i < letters; i++) {
        int ahead = 0;
        for (int j = 0; j < letters; j++) {
          int more = Integer.bitCount(letterSet[j]) - Integer.bitCount(letterSet[i]);
          if (more > 0 || more == 0 && j < i) {
            ahead++;
          }
        }
        if (ahead == place) {
          return i;
        }
      }
      return NONE;
    }

    int falseThings(Fate fate) {
      int set = 0;
      for (int i = 0; i < sights; i++) {
        int thing = sightThing[i];
        if (sightWeek[i] <= fate.week && within(thing, 0, THINGS - 1) && sightWear[i] > fate.wear[thing]) {
          set |= 1 << thing;
        }
        for (int j = 0; j < sights; j++) {
          if (sightThing[j] == thing && gainsay(i, j)) {
            set |= 1 << thing;
          }
        }
      }
      return set;
    }

    private boolean gainsay(int i, int j) {
      return sightWeek[i] < sightWeek[j] && sightWear[i] > sightWear[j]
          || sightWeek[i] == sightWeek[j] && sightWear[i] != sightWear[j];
    }

    int underWay(int week) {
      int many = 0;
      for (int i = 0; i < errands; i++) {
        if (within(week, errandWeek[i], errandWeek[i] + errandLength[i] - 1)) {
          many++;
        }
      }
      return many;
    }

    /** No later WEEK than the last in which an ERRAND may begin can be the first with the most. */
    int busiestWeek() {
      int best = NONE;
      int most = 0;
      for (int week = 0; week <= LAST_WEEK; week++) {
        int many = underWay(week);
        if (many > most) {
          most = many;
          best = week;
        }
      }
      return best;
    }
  }

  /** All that is and was told, in one piece, so that THE IMAGE is a copy of it. */
  private static final class World {
    final Fate fate;
    int things;
    int rival;
    int cards;
    int thaw;
    final int[] worth;
    final int[] after;
    int afterLines;
    final Law prices;
    final Law weekly;
    final Hills hills;
    final Plan plan;
    final Told told;
    final int[] book;
    /** What the LAWS are given: written anew for each question. */
    final int[] given;

    World() {
      fate = new Fate();
      thaw = FIRST_THAW;
      worth = new int[THINGS];
      after = new int[THINGS];
      prices = new Law();
      weekly = new Law();
      hills = new Hills();
      plan = new Plan();
      told = new Told();
      book = new int[BOOK * BOOK_PARTS];
      given = new int[GIVEN];
    }

    void become(World other) {
      fate.become(other.fate);
      things = other.things;
      rival = other.rival;
      cards = other.cards;
      thaw = other.thaw;
      System.arraycopy(other.worth, 0, worth, 0, THINGS);
      tellAfter(other.after, other.afterLines);
      prices.become(other.prices);
      weekly.become(other.weekly);
      hills.become(other.hills);
      plan.become(other.plan);
      told.become(other.told);
      System.arraycopy(other.book, 0, book, 0, book.length);
    }

    int addThing(int value) {
      if (things >= THINGS) {
        return NONE;
      }
      worth[things] = value;
      Arrays.fill(after, 0);
      afterLines = 0;
      things++;
      return things - 1;
    }

    void tellAfter(int[] sets, int lines) {
      System.arraycopy(sets, 0, after, 0, THINGS);
      afterLines = lines;
    }

    int all() {
      return (1 << things) - 1;
    }

    int homeSet() {
      int set = 0;
      for (int i = 0; i < things; i++) {
        if (fate.how[i] == HOME) {
          set |= 1 << i;
        }
      }
      return set;
    }

    boolean isHimHome() {
      return things > 0 && fate.how[things - 1] == HOME;
    }

    /** By AFTER and HIM alone: what WEEKS and PASSES ask stands with those who ask. */
    boolean isReady(int thing, int home) {
      boolean isHim = thing == things - 1;
      return (after[thing] & ~home) == 0 && (!isHim || (home | 1 << thing) == all());
    }

    boolean mayCome(int thing) {
      return !fate.came && fate.how[thing] != HOME && isReady(thing, homeSet());
    }

    int lastWorth() {
      return fate.last == NONE ? 0 : worth[fate.last];
    }

    int price(int thing) {
      return priceThen(thing, fate.week, Integer.bitCount(homeSet()), lastWorth(), fate.how[thing] == RIVAL);
    }

    int priceThen(int thing, int week, int home, int last, boolean taken) {
      giveThing(thing, taken);
      giveCommon(week, fate.cries, fate.credit);
      given[GIVEN_HOME] = home;
      given[GIVEN_LAST] = last;
      return held(prices.value(WORD_PRICE, given, worth[thing]), 1, MOST_PRICE);
    }

    private void giveThing(int thing, boolean taken) {
      given[GIVEN_THING] = thing;
      given[GIVEN_WORTH] = worth[thing];
      given[GIVEN_WEARS] = fate.wear[thing];
      given[GIVEN_RIVAL] = taken ? 1 : 0;
    }

    private void giveNoThing() {
      given[GIVEN_THING] = 0;
      given[GIVEN_WORTH] = 0;
      given[GIVEN_WEARS] = 0;
      given[GIVEN_RIVAL] = 0;
    }

    private void giveCommon(int week, int cries, int credit) {
      given[GIVEN_WEEK] = week;
      given[GIVEN_CRIES] = cries;
      given[GIVEN_CREDIT] = credit;
    }

    boolean canPay(int thing, int by) {
      return within(thing, 0, things - 1) && mayCome(thing)
          && hills.mudIn(by, fate.week) != NONE && price(thing) <= fate.gold;
    }

    /** Asked for behind canPay alone. */
    int payFor(int thing, int by) {
      int price = price(thing);
      fate.gold -= price;
      fate.paid[thing] = price;
      fate.how[thing] = HOME;
      fate.pass[thing] = by;
      fate.last = thing;
      fate.came = true;
      writeLine(PAID_LINE, thing, price, by);
      return price;
    }

    void cryBy(int n) {
      fate.cries = Math.min(MOST_CRIES, fate.cries + n);
      writeLine(CRY_LINE, n, 0, NONE);
    }

    private void writeLine(int what, int whom, int price, int by) {
      if (fate.bookLines < BOOK) {
        int at = fate.bookLines * BOOK_PARTS;
        book[at] = fate.week;
        book[at + 1] = what;
        book[at + 2] = whom;
        book[at + 3] = price;
        book[at + 4] = by;
        fate.bookLines++;
      }
    }

    /** Whether the RIVAL took a THING. */
    boolean passWeek() {
      wearAll();
      liveOnCredit();
      boolean took = rivalComes();
      fate.cries = Math.max(0, fate.cries - 1);
      fate.week++;
      fate.came = false;
      return took;
    }

    private void wearAll() {
      giveCommon(fate.week, fate.cries, fate.credit);
      for (int i = 0; i < things; i++) {
        if (fate.how[i] != HOME) {
          giveThing(i, fate.how[i] == RIVAL);
          int more = held(weekly.value(WORD_WEAR, given, 1), 0, 20);
          fate.wear[i] = Math.min(MOST_WEAR, fate.wear[i] + more);
        }
      }
    }

    private int eaten(int week, int cries, int credit) {
      giveNoThing();
      giveCommon(week, cries, credit);
      return held(weekly.value(WORD_EAT, given, 1), 0, 99);
    }

    private void liveOnCredit() {
      fate.credit = Math.max(0, fate.credit - eaten(fate.week, fate.cries, fate.credit));
      if (fate.credit > 0 && cards > 0 && cards > fate.draw(100)) {
        giveNoThing();
        giveCommon(fate.week, fate.cries, fate.credit);
        int gain = held(weekly.value(WORD_GAIN, given, 0), 0, 99);
        fate.credit = Math.min(MOST_CREDIT, fate.credit + gain);
      }
    }

    private boolean rivalComes() {
      if (rival == 0 || fate.draw(1000) >= rival) {
        return false;
      }
      for (int i = 0; i < things - 1; i++) {
        if (fate.how[i] == HELD) {
          fate.how[i] = RIVAL;
          writeLine(RIVAL_LINE, i, 0, NONE);
          return true;
        }
      }
      return false;
    }

    boolean doDeed(int word, int whom, int by) {
      if (word == WORD_CRY) {
        cryBy(whom);
        return true;
      }
      if (word == WORD_PAY) {
        boolean can = canPay(whom, by);
        if (can) {
          payFor(whom, by);
        }
        return can;
      }
      boolean some = fate.week < LAST_WEEK;
      for (int i = 0; i < whom && fate.week < LAST_WEEK; i++) {
        passWeek();
      }
      return some;
    }

    int creditLasts() {
      int credit = fate.credit;
      for (int i = 0; i <= 60; i++) {
        if (credit == 0) {
          return i;
        }
        credit = Math.max(0, credit - eaten(fate.week + i, Math.max(0, fate.cries - i), credit));
      }
      return NONE;
    }
  }

  /** ORDERS by sets of THINGS that are HOME: what can follow a set asks for nothing else. */
  private static final class Orders {
    final World world;
    final int[] ways;

    Orders(World asked) {
      world = asked;
      ways = new int[SETS];
    }

    int count() {
      int all = world.all();
      ways[all] = 1;
      for (int set = all - 1; set >= 0; set--) {
        int many = 0;
        for (int i = 0; i < world.things; i++) {
          if ((set >> i & 1) == 0 && world.isReady(i, set)) {
            many += ways[set | 1 << i];
          }
        }
        ways[set] = many;
      }
      return ways[world.homeSet()];
    }

    /** Of the ways that the latest count() found. */
    int thingAt(int place) {
      int set = world.homeSet();
      int found = NONE;
      for (int step = 0; step <= place && step <= THINGS; step++) {
        found = NONE;
        for (int i = 0; i < world.things && found == NONE; i++) {
          if ((set >> i & 1) == 0 && world.isReady(i, set) && ways[set | 1 << i] > 0) {
            found = i;
          }
        }
        if (found != NONE) {
          set |= 1 << found;
        }
      }
      return found;
    }
  }

  /**
   * LEAST from THAW backwards: what is yet to be paid asks for the WEEK, the set that is HOME and the
   * LAST of it alone. A set's eight LASTS share one int of choices, four bits each, to keep the room small.
   */
  private static final class Least {
    static final int NEVER = 1 << 29;
    static final int UNSOLVED = -2;
    static final int NO_THING = 8;
    static final int ALL_NO_THING = 0x88888888;
    /** HIM is HOME in the whole set alone, from which nothing is chosen, so half of the sets have no choices. */
    static final int CHOOSING = SETS / 2;

    final World world;
    final int[] cost;
    final int[] choices;
    /** By THING, how many are HOME, LAST: fewer than there are sets, so they are asked for but once each. */
    final int[] prices;
    /** By set, the THINGS that can come next: the same in every WEEK. */
    final int[] ready;
    int home;
    int all;
    int week;
    boolean byHome;
    boolean byLast;
    /** The THING that is thought to be with the RIVAL (NONE: all as it is), or UNSOLVED. */
    int taken;
    int sum;
    int waiting;
    boolean hardestKnown;
    int hardest;
    int most;

    Least(World asked) {
      world = asked;
      cost = new int[SETS * THINGS];
      choices = new int[(LAST_WEEK + 1) * CHOOSING];
      prices = new int[THINGS * THINGS * THINGS];
      ready = new int[SETS];
      taken = UNSOLVED;
    }

    void forget() {
      taken = UNSOLVED;
      hardestKnown = false;
    }

    boolean canBe() {
      return sum < NEVER;
    }

    int costOfWaiting() {
      return waiting < NEVER ? waiting - sum : NONE;
    }

    void findHardest() {
      if (hardestKnown) {
        return;
      }
      hardestKnown = true;
      hardest = NONE;
      most = NONE;
      for (int i = 0; i < world.things - 1; i++) {
        if (world.fate.how[i] == HELD) {
          solve(i);
          if (canBe() && sum > most) {
            most = sum;
            hardest = i;
          }
        }
      }
    }

    void solve(int thoughtTaken) {
      // a LAW that does not ask for it says the same whoever has a THING
      int asked = world.prices.asksFor(WORD + GIVEN_RIVAL) ? thoughtTaken : NONE;
      if (taken == asked) {
        return;
      }
      taken = asked;
      home = world.homeSet();
      all = world.all();
      sum = NEVER;
      waiting = NEVER;
      if (world.fate.week > world.thaw) {
        return;
      }
      byHome = world.prices.asksFor(WORD + GIVEN_HOME);
      byLast = world.prices.asksFor(WORD + GIVEN_LAST);
      boolean byWeek = world.prices.asksFor(WORD + GIVEN_WEEK);
      findReady();
      Arrays.fill(cost, NEVER);
      Arrays.fill(cost, all * THINGS, all * THINGS + THINGS, 0);
      for (int then = world.thaw; then >= world.fate.week; then--) {
        week = then;
        waiting = cost[home * THINGS];
        if (byWeek || then == world.thaw) {
          askPrices();
        }
        settleWeek();
      }
      sum = cost[home * THINGS];
    }

    private void findReady() {
      for (int set = home; set <= all; set++) {
        int next = 0;
        for (int i = 0; i < world.things; i++) {
          if ((set >> i & 1) == 0 && world.isReady(i, set)) {
            next |= 1 << i;
          }
        }
        ready[set] = next;
      }
    }

    /** One column beyond the first does for all, if the LAW does not ask how many are HOME. */
    private int columnOf(int many) {
      return byHome ? many : Math.min(many, Integer.bitCount(home) + 1);
    }

    private void askPrices() {
      int atFirst = Integer.bitCount(home);
      for (int thing = 0; thing < world.things; thing++) {
        boolean withRival = thing == taken || world.fate.how[thing] == RIVAL;
        for (int many = atFirst; many <= columnOf(world.things - 1); many++) {
          int slots = many > atFirst && byLast ? world.things : 1;
          for (int slot = 0; slot < slots; slot++) {
            int last = many == atFirst ? world.lastWorth() : world.worth[slot];
            prices[priceAt(thing, many, slot)] = world.priceThen(thing, week, many, last, withRival);
          }
        }
      }
    }

    private static int priceAt(int thing, int column, int slot) {
      return (thing * THINGS + column) * THINGS + slot;
    }

    /** From lesser sets to greater ones, so that each still finds the next WEEK's costs of those beyond it. */
    private void settleWeek() {
      Arrays.fill(choices, week * CHOOSING, week * CHOOSING + CHOOSING, ALL_NO_THING);
      boolean closed = week == world.fate.week && world.fate.came || !world.hills.isAnyOpen(week);
      if (closed) {
        return;
      }
      for (int set = home; set <= all >> 1; set++) {
        if ((set & home) == home) {
          settleSet(set);
        }
      }
    }

    private void settleSet(int set) {
      int lasts = byLast && set != home ? set & ~home : 1;
      int row = ALL_NO_THING;
      for (int slot = 0; slot < THINGS; slot++) {
        if ((lasts >> slot & 1) != 0) {
          int choice = settle(set, slot);
          row = row & ~(15 << 4 * slot) | choice << 4 * slot;
        }
      }
      choices[week * CHOOSING + set] = row;
    }

    private int settle(int set, int slot) {
      int column = columnOf(Integer.bitCount(set));
      int next = ready[set];
      int best = NEVER;
      int choice = NO_THING;
      for (int i = 0; i < world.things; i++) {
        if ((next >> i & 1) != 0) {
          int rest = cost[(set | 1 << i) * THINGS + (byLast ? i : 0)];
          int whole = rest < NEVER ? rest + prices[priceAt(i, column, slot)] : NEVER;
          if (whole < best) {
            best = whole;
            choice = i;
          }
        }
      }
      int at = set * THINGS + slot;
      if (cost[at] < best) {
        return NO_THING;
      }
      cost[at] = best;
      return choice;
    }

    /** The k-th WEEK must not be behind THAW. */
    int thingOfWeek(int k) {
      int set = home;
      int slot = 0;
      int choice = NO_THING;
      for (int i = 0; i <= k && world.fate.week + i <= LAST_WEEK; i++) {
        choice = set == all ? NO_THING : choices[(world.fate.week + i) * CHOOSING + set] >> 4 * slot & 15;
        if (choice < NO_THING) {
          set |= 1 << choice;
          slot = byLast ? choice : 0;
        }
      }
      return choice < NO_THING ? choice : NONE;
    }
  }

  /**
   * Reads the TEXTS. It goes from left to right and keeps the first FAULT alone, which is thus the first by
   * its place. What it reads lies in rows of its own until the text turns out to be sound.
   */
  private static final class Reader {
    final int[] token;
    final int[] number;
    final int[] place;
    int tokens;
    int at;
    int things;
    boolean ofPrices;
    int fault;
    int faultPlace;
    final Law law;
    final Hills hills;
    final Plan plan;
    final int[] after;
    int afterLines;

    Reader() {
      token = new int[TAPE + 1];
      number = new int[TAPE + 1];
      place = new int[TAPE + 1];
      faultPlace = NONE;
      law = new Law();
      hills = new Hills();
      plan = new Plan();
      after = new int[THINGS];
    }

    void split(int[] bytes, int length, int thingsNow) {
      things = thingsNow;
      fault = 0;
      faultPlace = NONE;
      tokens = 0;
      at = 0;
      int from = 0;
      for (int i = 0; i < length && from < length; i++) {
        from = splitOne(bytes, from, length);
      }
      addToken(TOKEN_END, 0, length);
    }

    private void addToken(int kind, int value, int where) {
      if (tokens < token.length) {
        token[tokens] = kind;
        number[tokens] = value;
        place[tokens] = where;
        tokens++;
      }
    }

    /** Where the next one begins. */
    private int splitOne(int[] bytes, int from, int length) {
      int sign = bytes[from];
      if (sign == ' ' || sign == '\n') {
        return from + 1;
      }
      int to = from;
      while (to < length && isLetter(bytes[to])) {
        to++;
      }
      if (to > from) {
        addToken(keyword(bytes, from, to), 0, from);
        return to;
      }
      int value = 0;
      while (to < length && bytes[to] >= '0' && bytes[to] <= '9') {
        value = value * 10 + bytes[to] - '0';
        to++;
      }
      if (to > from) {
        addToken(to - from <= 4 ? TOKEN_NUMBER : TOKEN_NONE, value, from);
        return to;
      }
      addToken(SIGNS.indexOf((char) sign) >= 0 ? sign : TOKEN_NONE, 0, from);
      return from + 1;
    }

    private static boolean isLetter(int sign) {
      return sign >= 'a' && sign <= 'z' || sign >= 'A' && sign <= 'Z';
    }

    /** Words of other TEXTS are taken too: the grammar has no place for them, which is the same FAULT. */
    private static int keyword(int[] bytes, int from, int to) {
      int which = WORD;
      int next = from;
      boolean same = true;
      for (int i = 0; i < WORDS.length(); i++) {
        char letter = WORDS.charAt(i);
        if (letter != ' ') {
          same = same && next < to && bytes[next] == letter;
          next++;
        } else if (same && next == to) {
          return which;
        } else {
          which++;
          next = from;
          same = true;
        }
      }
      return TOKEN_NONE;
    }

    private void fail(int kind) {
      if (fault == 0) {
        fault = kind;
        faultPlace = place[at];
      }
    }

    private void step() {
      if (at < tokens - 1) {
        at++;
      }
    }

    private void expect(int kind) {
      if (token[at] == kind) {
        step();
      } else {
        fail(FAULT_PLACE);
      }
    }

    private int numberWithin(int low, int high) {
      int value = number[at];
      if (token[at] != TOKEN_NUMBER) {
        fail(FAULT_PLACE);
      } else if (!within(value, low, high)) {
        fail(FAULT_BOUNDS);
      } else {
        step();
      }
      return value;
    }

    private boolean goesOn() {
      return fault == 0 && token[at] != TOKEN_END;
    }

    void readLaw(boolean prices) {
      ofPrices = prices;
      law.lines = 0;
      law.size = 0;
      for (int i = 0; i <= LAW_LINES && goesOn(); i++) {
        readLawLine(i == LAW_LINES);
      }
    }

    private void readLawLine(boolean tooMany) {
      int word = token[at];
      boolean known = ofPrices ? word == WORD_PRICE : within(word, WORD_WEAR, WORD_GAIN);
      if (!known) {
        fail(FAULT_PLACE);
        return;
      }
      if (tooMany) {
        fail(FAULT_TOO_MANY);
        return;
      }
      step();
      int from = law.size;
      readSum();
      int turn = law.size;
      if (fault == 0 && token[at] == WORD_WHEN) {
        step();
        readEither(0);
      }
      if (fault == 0) {
        expect(';');
        law.addLine(word, from, turn);
      }
    }

    /** A sum's sign waits until the product behind it is whole. */
    private void readSum() {
      int waits = 0;
      readUnit();
      for (int i = 0; i < TAPE && fault == 0; i++) {
        int sign = token[at];
        if (sign == '*') {
          step();
          readUnit();
          law.put(sign);
        } else if (sign == '/') {
          step();
          law.put(CODE_NUMBER + numberWithin(1, 9999));
          law.put(sign);
        } else {
          if (waits != 0) {
            law.put(waits);
          }
          if (sign != '+' && sign != '-') {
            return;
          }
          waits = sign;
          step();
          readUnit();
        }
      }
    }

    private void readUnit() {
      int unit = token[at];
      int lastGiven = WORD + (ofPrices ? GIVEN_LAST : GIVEN_CREDIT);
      if (unit == TOKEN_NUMBER) {
        law.put(CODE_NUMBER + number[at]);
        step();
      } else if (within(unit, WORD, lastGiven)) {
        law.put(unit);
        step();
      } else {
        fail(FAULT_PLACE);
      }
    }

    /** An or waits until what is joined by and behind it is whole. */
    private void readEither(int open) {
      boolean waits = false;
      readCondition(open);
      for (int i = 0; i < TAPE && fault == 0; i++) {
        int word = token[at];
        if (word == WORD_AND) {
          step();
          readCondition(open);
          law.put(word);
        } else {
          if (waits) {
            law.put(WORD_OR);
          }
          if (word != WORD_OR) {
            return;
          }
          waits = true;
          step();
          readCondition(open);
        }
      }
    }

    private void readCondition(int open) {
      int first = token[at];
      boolean opens = first == WORD_NOT || first == '(';
      if (opens && open >= OPEN) {
        fail(FAULT_TOO_MANY);
      } else if (first == WORD_NOT) {
        step();
        readCondition(open + 1);
        law.put(WORD_NOT);
      } else if (first == '(') {
        step();
        readEither(open + 1);
        expect(')');
      } else {
        readSum();
        int sign = token[at];
        if (fault == 0 && (sign == '<' || sign == '=' || sign == '>')) {
          step();
          readSum();
          law.put(sign);
        } else {
          fail(FAULT_PLACE);
        }
      }
    }

    void readHills() {
      hills.lines = 0;
      for (int i = 0; i <= HILL_LINES && goesOn(); i++) {
        int word = token[at];
        if (word != WORD_PASS && word != WORD_CAVE) {
          fail(FAULT_PLACE);
        } else if (i == HILL_LINES) {
          fail(FAULT_TOO_MANY);
        } else {
          step();
          readHill(word == WORD_CAVE);
        }
      }
    }

    private void readHill(boolean isCave) {
      int which = numberWithin(0, isCave ? CAVES - 1 : PASSES - 1);
      if (isCave) {
        expect(WORD_BY);
        hills.addCave(which, numberWithin(0, PASSES - 1));
      } else {
        expect(WORD_FROM);
        int from = numberWithin(0, LAST_WEEK);
        expect(WORD_TO);
        int to = numberWithin(from, LAST_WEEK);
        expect(WORD_MUD);
        hills.addPass(which, from, to, numberWithin(0, MOST_MUD));
      }
      expect(';');
    }

    void readAfter() {
      afterLines = 0;
      Arrays.fill(after, 0);
      for (int i = 0; i <= AFTER_LINES && goesOn(); i++) {
        if (i == AFTER_LINES && token[at] == TOKEN_NUMBER && number[at] < things) {
          fail(FAULT_TOO_MANY);
        }
        int thing = numberWithin(0, things - 1);
        expect(WORD_AFTER);
        readAfterThings(thing);
        expect(';');
        afterLines++;
      }
    }

    private void readAfterThings(int thing) {
      boolean more = true;
      for (int i = 0; i < TAPE && more && fault == 0; i++) {
        if (token[at] == TOKEN_NUMBER && number[at] == thing) {
          fail(FAULT_BOUNDS);
        }
        int other = numberWithin(0, things - 1);
        if (fault == 0) {
          after[thing] |= 1 << other;
        }
        more = token[at] == TOKEN_NUMBER;
      }
    }

    void readPlan() {
      plan.deeds = 0;
      readDeeds(0);
      if (plan.deeds > DEEDS) {
        fail(FAULT_DEEDS);
      }
    }

    private void readDeeds(int open) {
      for (int i = 0; i < TAPE && goesOn() && !(open > 0 && token[at] == ')'); i++) {
        int word = token[at];
        if (word == WORD_AGAIN) {
          readAgain(open);
        } else if (within(word, WORD_PAY, WORD_WAIT)) {
          step();
          readDeed(word);
        } else {
          fail(FAULT_PLACE);
        }
      }
    }

    private void readAgain(int open) {
      if (open >= AGAIN_OPEN) {
        fail(FAULT_TOO_MANY);
        return;
      }
      step();
      int times = numberWithin(1, MOST_AGAIN);
      expect('(');
      int from = plan.deeds;
      if (fault == 0) {
        readDeeds(open + 1);
      }
      expect(')');
      if (fault == 0) {
        plan.repeat(from, times);
      }
    }

    private void readDeed(int word) {
      if (word == WORD_PAY) {
        int thing = numberWithin(0, things - 1);
        expect(WORD_BY);
        plan.addDeed(word, thing, numberWithin(0, PASSES - 1));
      } else {
        plan.addDeed(word, numberWithin(1, MOST_AT_ONCE), NONE);
      }
      expect(';');
    }
  }
}
