import java.util.ArrayDeque;
import java.util.ArrayList;
import java.util.Deque;
import java.util.HashMap;
import java.util.List;
import java.util.Map;
import java.util.function.IntPredicate;
import java.util.regex.Matcher;
import java.util.regex.Pattern;

/**
 * The document once more, by other means and without care for speed: trees of functions for the laws, all orders tried
 * one by one, whole copies for going back. ModelTest holds the class against it.
 */
final class SlowModel {
  private static final int NONE = -1;

  /** Values by name, as a law asks for them. */
  private interface Value {
    int in(Map<String, Integer> names);
  }

  private interface Truth {
    boolean in(Map<String, Integer> names);
  }

  private static final class Line {
    String word;
    Value value;
    Truth when;
  }

  private static final class Fault extends RuntimeException {
    private static final long serialVersionUID = 1L;
    final int kind;
    final int place;

    Fault(int kind, int place) {
      super(null, null, false, false);
      this.kind = kind;
      this.place = place;
    }
  }

  private static final class Piece {
    int worth;
    int wear;
    int how;
    int paid;
    int pass = NONE;

    Piece copy() {
      Piece p = new Piece();
      p.worth = worth;
      p.wear = wear;
      p.how = how;
      p.paid = paid;
      p.pass = pass;
      return p;
    }
  }

  private static final class All {
    int state;
    int gold;
    int credit;
    int cries;
    int rival;
    int cards;
    int thaw = 30;
    int week;
    int last = NONE;
    int cameIn = NONE;
    List<Piece> pieces = new ArrayList<>();
    List<Line> prices = List.of();
    List<Line> weekly = List.of();
    List<int[]> hills = List.of();
    List<int[]> after = List.of();
    List<int[]> plan = List.of();
    List<int[]> book = new ArrayList<>();
    List<Integer> letters = new ArrayList<>();
    List<int[]> sights = new ArrayList<>();
    List<int[]> errands = new ArrayList<>();

    All copy() {
      All a = new All();
      a.state = state;
      a.gold = gold;
      a.credit = credit;
      a.cries = cries;
      a.rival = rival;
      a.cards = cards;
      a.thaw = thaw;
      a.week = week;
      a.last = last;
      a.cameIn = cameIn;
      for (Piece p : pieces) {
        a.pieces.add(p.copy());
      }
      a.prices = prices;
      a.weekly = weekly;
      a.hills = hills;
      a.after = after;
      a.plan = plan;
      a.book.addAll(book);
      a.letters.addAll(letters);
      a.sights.addAll(sights);
      a.errands.addAll(errands);
      return a;
    }
  }

  private All w = new All();
  private All image;
  private final Deque<All> done = new ArrayDeque<>();
  private final StringBuilder tape = new StringBuilder();
  private int faultKind;
  private int faultPlace = NONE;

  // ---- telling

  int state(int v) {
    int was = w.state;
    w.state = v;
    done.clear();
    return was;
  }

  int thing(int worth) {
    int n = w.pieces.size();
    if (worth < 0 || worth > 999 || n == 8 || n > 0 && w.pieces.get(n - 1).how == 1) {
      return NONE;
    }
    Piece p = new Piece();
    p.worth = worth;
    w.pieces.add(p);
    w.after = List.of();
    done.clear();
    return n;
  }

  boolean set(int what, int who, int v) {
    int[] most = {99999, 9999, 99, 1000, 99, 60, 999, 99};
    if (what < 0 || what > 7 || v < 0 || v > most[what]) {
      return false;
    }
    if (what > 5 && (who < 0 || who >= w.pieces.size())) {
      return false;
    }
    switch (what) {
      case 0 -> w.gold = v;
      case 1 -> w.credit = v;
      case 2 -> w.cries = v;
      case 3 -> w.rival = v;
      case 4 -> w.cards = v;
      case 5 -> w.thaw = v;
      case 6 -> w.pieces.get(who).worth = v;
      default -> w.pieces.get(who).wear = v;
    }
    done.clear();
    return true;
  }

  int feed(int... numbers) {
    if (tape.length() > 380) {
      return NONE;
    }
    for (int n : numbers) {
      tape.append((char) (n >> 24 & 255)).append((char) (n >> 16 & 255)).append((char) (n >> 8 & 255)).append((char) (n & 255));
    }
    return tape.length();
  }

  boolean end(int n) {
    if (n < 0 || n > tape.length()) {
      return false;
    }
    tape.setLength(n);
    return true;
  }

  // ---- texts

  private static final class Token {
    String kind;
    String text;
    int place;
  }

  private static final Map<Integer, String> WORDS = Map.of(
      0, "price when or and not thing worth wears week cries rival credit home last",
      1, "wear eat gain when or and not thing worth wears week cries rival credit",
      2, "pass from to mud cave by", 3, "after", 4, "pay by cry wait again");

  private List<Token> tokens;
  private int at;
  private int lawOf;

  private static List<Token> split(String text, int k) {
    List<Token> all = new ArrayList<>();
    List<String> words = List.of(WORDS.get(k).split(" "));
    Matcher m = Pattern.compile("[a-zA-Z]+|[0-9]+|[ \\n]+|.", Pattern.DOTALL).matcher(text);
    while (m.find()) {
      String s = m.group();
      Token t = new Token();
      t.text = s;
      t.place = m.start();
      char c = s.charAt(0);
      if (c == ' ' || c == '\n') {
        continue;
      }
      if (words.contains(s)) {
        t.kind = s;
      } else if (c >= '0' && c <= '9') {
        t.kind = s.length() < 5 ? "number" : "bad";
      } else {
        t.kind = s.length() == 1 && ";+-*/()<=>".contains(s) ? s : "bad";
      }
      all.add(t);
    }
    Token end = new Token();
    end.kind = "end";
    end.place = text.length();
    all.add(end);
    return all;
  }

  private boolean is(String kind) {
    return tokens.get(at).kind.equals(kind);
  }

  private boolean took(String kind) {
    if (!is(kind)) {
      return false;
    }
    at++;
    return true;
  }

  private void must(String kind) {
    if (!took(kind)) {
      throw new Fault(1, tokens.get(at).place);
    }
  }

  private int number(IntPredicate good) {
    if (!is("number")) {
      throw new Fault(1, tokens.get(at).place);
    }
    int v = Integer.parseInt(tokens.get(at).text);
    if (!good.test(v)) {
      throw new Fault(2, tokens.get(at).place);
    }
    at++;
    return v;
  }

  private int number(int low, int high) {
    return number(v -> v >= low && v <= high);
  }

  int text(int k) {
    String text = tape.toString();
    tape.setLength(0);
    faultKind = 0;
    faultPlace = NONE;
    if (k < 0 || k > 4) {
      return NONE;
    }
    try {
      tokens = split(text, k);
      at = 0;
      lawOf = k;
      int answer = switch (k) {
        case 0 -> (w.prices = law()).size();
        case 1 -> (w.weekly = law()).size();
        case 2 -> (w.hills = hills()).size();
        case 3 -> (w.after = after()).size();
        default -> (w.plan = plan()).size();
      };
      if (k > 1) {
        done.clear();
      }
      return answer;
    } catch (Fault f) {
      faultKind = f.kind;
      faultPlace = f.place;
      return NONE;
    }
  }

  int fault(int what) {
    return what == 0 ? faultKind : what == 1 ? faultPlace : NONE;
  }

  private List<Line> law() {
    List<Line> lines = new ArrayList<>();
    while (!is("end")) {
      Line line = new Line();
      line.word = tokens.get(at).kind;
      int place = tokens.get(at).place;
      if (!List.of(lawOf == 0 ? new String[] {"price"} : new String[] {"wear", "eat", "gain"}).contains(line.word)) {
        throw new Fault(1, place);
      }
      if (lines.size() == 16) {
        throw new Fault(3, place);
      }
      at++;
      line.value = e();
      if (took("when")) {
        line.when = b(0);
      }
      must(";");
      lines.add(line);
    }
    return lines;
  }

  private Value e() {
    Value v = t();
    while (is("+") || is("-")) {
      boolean plus = tokens.get(at++).kind.equals("+");
      Value left = v;
      Value right = t();
      v = plus ? n -> left.in(n) + right.in(n) : n -> left.in(n) - right.in(n);
    }
    return v;
  }

  private Value t() {
    Value v = u();
    while (is("*") || is("/")) {
      Value left = v;
      if (took("*")) {
        Value right = u();
        v = n -> left.in(n) * right.in(n);
      } else {
        at++;
        int by = number(1, 9999);
        v = n -> left.in(n) / by;
      }
    }
    return v;
  }

  private Value u() {
    if (is("number")) {
      int v = number(0, 9999);
      return n -> v;
    }
    String name = tokens.get(at).kind;
    if (!" thing worth wears week cries rival credit home last ".contains(" " + name + " ")) {
      throw new Fault(1, tokens.get(at).place);
    }
    at++;
    return n -> n.get(name);
  }

  private Truth b(int open) {
    Truth v = a(open);
    while (took("or")) {
      Truth left = v;
      Truth right = a(open);
      v = n -> left.in(n) || right.in(n);
    }
    return v;
  }

  private Truth a(int open) {
    Truth v = condition(open);
    while (took("and")) {
      Truth left = v;
      Truth right = condition(open);
      v = n -> left.in(n) && right.in(n);
    }
    return v;
  }

  private Truth condition(int open) {
    if ((is("not") || is("(")) && open == 8) {
      throw new Fault(3, tokens.get(at).place);
    }
    if (took("not")) {
      Truth other = condition(open + 1);
      return n -> !other.in(n);
    }
    if (took("(")) {
      Truth inside = b(open + 1);
      must(")");
      return inside;
    }
    Value left = e();
    String sign = tokens.get(at).kind;
    if (!sign.equals("<") && !sign.equals("=") && !sign.equals(">")) {
      throw new Fault(1, tokens.get(at).place);
    }
    at++;
    Value right = e();
    return switch (sign) {
      case "<" -> n -> left.in(n) < right.in(n);
      case "=" -> n -> left.in(n) == right.in(n);
      default -> n -> left.in(n) > right.in(n);
    };
  }

  private List<int[]> hills() {
    List<int[]> lines = new ArrayList<>();
    while (!is("end")) {
      if (!is("pass") && !is("cave")) {
        throw new Fault(1, tokens.get(at).place);
      }
      if (lines.size() == 24) {
        throw new Fault(3, tokens.get(at).place);
      }
      if (took("pass")) {
        int pass = number(0, 5);
        must("from");
        int from = number(0, 60);
        must("to");
        int to = number(from, 60);
        must("mud");
        lines.add(new int[] {0, pass, from, to, number(0, 5)});
      } else {
        at++;
        int cave = number(0, 7);
        must("by");
        lines.add(new int[] {1, number(0, 5), cave});
      }
      must(";");
    }
    return lines;
  }

  private List<int[]> after() {
    List<int[]> lines = new ArrayList<>();
    int n = w.pieces.size();
    while (!is("end")) {
      int place = tokens.get(at).place;
      int thing = number(0, n - 1);
      if (lines.size() == 12) {
        throw new Fault(3, place);
      }
      must("after");
      int set = 0;
      do {
        set |= 1 << number(v -> v < n && v != thing);
      } while (is("number"));
      must(";");
      lines.add(new int[] {thing, set});
    }
    return lines;
  }

  private List<int[]> plan() {
    List<int[]> deeds = deeds(0);
    must("end");
    at--;
    if (deeds.size() > 60) {
      throw new Fault(4, tokens.get(at).place);
    }
    return deeds;
  }

  private List<int[]> deeds(int open) {
    List<int[]> deeds = new ArrayList<>();
    while (true) {
      if (is("again") && open == 4) {
        throw new Fault(3, tokens.get(at).place);
      }
      if (took("pay")) {
        int thing = number(0, w.pieces.size() - 1);
        must("by");
        deeds.add(new int[] {0, thing, number(0, 5)});
        must(";");
      } else if (took("cry")) {
        deeds.add(new int[] {1, number(1, 20)});
        must(";");
      } else if (took("wait")) {
        deeds.add(new int[] {2, number(1, 20)});
        must(";");
      } else if (took("again")) {
        int times = number(1, 9);
        must("(");
        List<int[]> inside = deeds(open + 1);
        must(")");
        for (int i = 0; i < times; i++) {
          deeds.addAll(inside);
        }
      } else {
        return deeds;
      }
    }
  }

  // ---- prices and weeks

  private static int hold(int v, int low, int high) {
    return v < low ? low : v > high ? high : v;
  }

  private int draw(int m) {
    w.state = w.state * 1664525 + 1013904223;
    return (int) (((w.state & 0xffffffffL) >> 8) % m);
  }

  private static int first(List<Line> law, String word, Map<String, Integer> names, int without) {
    for (Line line : law) {
      if (line.word.equals(word) && (line.when == null || line.when.in(names))) {
        return line.value.in(names);
      }
    }
    return without;
  }

  private Map<String, Integer> names(int thing, int week, int cries, int credit) {
    Map<String, Integer> n = new HashMap<>();
    Piece p = thing == NONE ? new Piece() : w.pieces.get(thing);
    n.put("thing", Math.max(0, thing));
    n.put("worth", p.worth);
    n.put("wears", p.wear);
    n.put("rival", p.how == 2 ? 1 : 0);
    n.put("week", week);
    n.put("cries", cries);
    n.put("credit", credit);
    return n;
  }

  private int priceAt(int thing, int week, int home, int last) {
    Map<String, Integer> n = names(thing, week, w.cries, w.credit);
    n.put("home", home);
    n.put("last", last == NONE ? 0 : w.pieces.get(last).worth);
    return hold(first(w.prices, "price", n, w.pieces.get(thing).worth), 1, 9999);
  }

  private int homeSet() {
    int set = 0;
    for (int i = 0; i < w.pieces.size(); i++) {
      set |= w.pieces.get(i).how == 1 ? 1 << i : 0;
    }
    return set;
  }

  private int price(int thing) {
    return priceAt(thing, w.week, Integer.bitCount(homeSet()), w.last);
  }

  private int afterSet(int thing) {
    int set = 0;
    for (int[] line : w.after) {
      set |= line[0] == thing ? line[1] : 0;
    }
    return set;
  }

  private boolean follows(int thing, int home) {
    int n = w.pieces.size();
    if ((home >> thing & 1) == 1 || (afterSet(thing) & home) != afterSet(thing)) {
      return false;
    }
    return thing < n - 1 || Integer.bitCount(home) == n - 1;
  }

  private boolean mayCome(int thing) {
    return w.cameIn != w.week && follows(thing, homeSet());
  }

  int mud(int pass, int week) {
    for (int[] line : w.hills) {
      if (line[0] == 0 && line[1] == pass && week >= line[2] && week <= line[3]) {
        return line[4];
      }
    }
    return NONE;
  }

  private void write(int... line) {
    if (w.book.size() < 120) {
      w.book.add(line);
    }
  }

  private void keep(All before) {
    done.addLast(before);
    if (done.size() > 6) {
      done.removeFirst();
    }
  }

  private int payNow(int thing, int pass) {
    if (thing < 0 || thing >= w.pieces.size() || !mayCome(thing) || mud(pass, w.week) == NONE || price(thing) > w.gold) {
      return NONE;
    }
    int price = price(thing);
    Piece p = w.pieces.get(thing);
    w.gold -= price;
    p.paid = price;
    p.how = 1;
    p.pass = pass;
    w.last = thing;
    w.cameIn = w.week;
    write(w.week, 0, thing, price, pass);
    return price;
  }

  int pay(int thing, int pass) {
    All before = w.copy();
    int price = payNow(thing, pass);
    if (price != NONE) {
      keep(before);
    }
    return price;
  }

  private void cryNow(int n) {
    w.cries = Math.min(99, w.cries + n);
    write(w.week, 1, n, 0, NONE);
  }

  int cry(int n) {
    if (n < 1 || n > 20) {
      return NONE;
    }
    keep(w.copy());
    cryNow(n);
    return w.cries;
  }

  private int weekNow() {
    for (int i = 0; i < w.pieces.size(); i++) {
      Piece p = w.pieces.get(i);
      if (p.how != 1) {
        p.wear = Math.min(99, p.wear + hold(first(w.weekly, "wear", names(i, w.week, w.cries, w.credit), 1), 0, 20));
      }
    }
    w.credit = Math.max(0, w.credit - hold(first(w.weekly, "eat", names(NONE, w.week, w.cries, w.credit), 1), 0, 99));
    if (w.credit > 0 && w.cards > 0 && draw(100) < w.cards) {
      w.credit = Math.min(9999, w.credit + hold(first(w.weekly, "gain", names(NONE, w.week, w.cries, w.credit), 0), 0, 99));
    }
    int took = 0;
    if (w.rival > 0 && draw(1000) < w.rival) {
      for (int i = 0; i + 1 < w.pieces.size() && took == 0; i++) {
        if (w.pieces.get(i).how == 0) {
          w.pieces.get(i).how = 2;
          write(w.week, 2, i, 0, NONE);
          took = 1;
        }
      }
    }
    w.cries = Math.max(0, w.cries - 1);
    w.week++;
    return took;
  }

  int weeks(int n) {
    if (n < 1 || n > 20 || w.week + n > 60) {
      return NONE;
    }
    int took = 0;
    for (int i = 0; i < n; i++) {
      keep(w.copy());
      took += weekNow();
    }
    return took;
  }

  int goes() {
    keep(w.copy());
    int deeds = 0;
    for (int[] deed : w.plan) {
      if (deed[0] == 0) {
        deeds += payNow(deed[1], deed[2]) == NONE ? 0 : 1;
      } else if (deed[0] == 1) {
        cryNow(deed[1]);
        deeds++;
      } else {
        int until = Math.min(60, w.week + deed[1]);
        deeds += until > w.week ? 1 : 0;
        while (w.week < until) {
          weekNow();
        }
      }
    }
    return deeds;
  }

  int of(int thing, int what) {
    if (thing < 0 || thing >= w.pieces.size()) {
      return -2;
    }
    Piece p = w.pieces.get(thing);
    return switch (what) {
      case 0 -> p.worth;
      case 1 -> p.wear;
      case 2 -> p.how;
      case 3 -> p.paid;
      case 4 -> p.pass;
      case 5 -> price(thing);
      case 6 -> mayCome(thing) ? 1 : 0;
      case 7 -> afterSet(thing);
      default -> -2;
    };
  }

  int book(int i, int what) {
    return i < 0 || i >= w.book.size() || what < 0 || what > 4 ? -2 : w.book.get(i)[what];
  }

  // ---- in thought

  /** The sum and, WEEK by WEEK, the THINGS; null if it can't be. */
  private int[] way(int week, int home, int last, boolean first, boolean mayPay, Map<Integer, int[]> known) {
    int n = w.pieces.size();
    if (week > w.thaw) {
      return home == (1 << n) - 1 ? new int[] {0} : null;
    }
    int key = (week * 256 + home) * 16 + last + 1;
    if (!first && known.containsKey(key)) {
      return known.get(key);
    }
    boolean open = false;
    for (int p = 0; p < 6; p++) {
      open |= mud(p, week) != NONE;
    }
    int[] best = null;
    for (int i = 0; i <= n; i++) {
      boolean pays = i < n;
      if (pays && (!open || !mayPay || !follows(i, home))) {
        continue;
      }
      int[] rest = way(week + 1, pays ? home | 1 << i : home, pays ? i : last, false, true, known);
      if (rest == null) {
        continue;
      }
      int sum = rest[0] + (pays ? priceAt(i, week, Integer.bitCount(home), last) : 0);
      if (best == null || sum < best[0]) {
        best = new int[rest.length + 1];
        System.arraycopy(rest, 1, best, 2, rest.length - 1);
        best[0] = sum;
        best[1] = pays ? i : NONE;
      }
    }
    if (!first) {
      known.put(key, best);
    }
    return best;
  }

  private int[] leastWay(boolean mayPay) {
    if (w.week > w.thaw) {
      return null;
    }
    return way(w.week, homeSet(), w.last, true, mayPay && w.cameIn != w.week, new HashMap<>());
  }

  int least(int what) {
    int[] best = leastWay(true);
    if (best == null) {
      return NONE;
    }
    if (what == 0) {
      return best[0];
    }
    if (what == 1) {
      int[] later = leastWay(false);
      return later == null ? NONE : later[0] - best[0];
    }
    long k = (long) what - 10;
    return k < 0 || k + 1 >= best.length ? NONE : best[(int) k + 1];
  }

  private int ordersFrom(int home, List<Integer> sofar, List<Integer> firstOne) {
    int n = w.pieces.size();
    if (home == (1 << n) - 1) {
      if (firstOne.isEmpty()) {
        firstOne.addAll(sofar);
      }
      return 1;
    }
    int many = 0;
    for (int i = 0; i < n; i++) {
      if (follows(i, home)) {
        sofar.add(i);
        many += ordersFrom(home | 1 << i, sofar, firstOne);
        sofar.remove(sofar.size() - 1);
      }
    }
    return many;
  }

  int orders(int what) {
    List<Integer> one = new ArrayList<>();
    int many = ordersFrom(homeSet(), new ArrayList<>(), one);
    long i = (long) what - 10;
    return what == 0 ? many : i >= 0 && i < one.size() ? one.get((int) i) : NONE;
  }

  int fits(int a, int b, int week, int mud) {
    if (week < 0 || week > 60 || mud < 0 || mud > 5) {
      return NONE;
    }
    int set = 0;
    for (int p = 0; p < 6; p++) {
      for (int i = 0; i < w.pieces.size(); i++) {
        Piece x = w.pieces.get(i);
        set |= mud(p, week) == mud && x.how != 1 && a <= x.wear && x.wear <= b ? 1 << i : 0;
      }
    }
    return set;
  }

  int kept() {
    int set = 0;
    for (int cave = 0; cave < 8; cave++) {
      int by = 0;
      for (int[] line : w.hills) {
        by |= line[0] == 1 && line[2] == cave ? 1 << line[1] : 0;
      }
      boolean can = by != 0;
      for (Piece p : w.pieces) {
        can &= p.how != 1 || (by >> p.pass & 1) == 1;
      }
      set |= can ? 1 << cave : 0;
    }
    return set;
  }

  int letter(int things) {
    if (things < 0 || things >> w.pieces.size() != 0 || w.letters.size() == 8) {
      return NONE;
    }
    w.letters.add(things);
    return w.letters.size() - 1;
  }

  private int lettersFrom(int used, int ahead, List<Integer> sofar, List<Integer> firstOne) {
    int n = w.letters.size();
    if (used == (1 << n) - 1) {
      if (firstOne.isEmpty()) {
        firstOne.addAll(sofar);
      }
      return 1;
    }
    int many = 0;
    for (int i = 0; i < n; i++) {
      if ((used >> i & 1) == 0 && (w.letters.get(i) & ~ahead) == 0) {
        sofar.add(i);
        many += lettersFrom(used | 1 << i, w.letters.get(i), sofar, firstOne);
        sofar.remove(sofar.size() - 1);
      }
    }
    return many;
  }

  int letters(int what) {
    List<Integer> one = new ArrayList<>();
    int many = lettersFrom(0, 255, new ArrayList<>(), one);
    long i = (long) what - 10;
    return what == 0 ? many : i >= 0 && i < one.size() ? one.get((int) i) : NONE;
  }

  int sight(int thing, int week, int wear) {
    if (thing == NONE) {
      w.sights.clear();
      return 0;
    }
    if (thing < 0 || thing >= w.pieces.size() || week < 0 || week > 60 || wear < 0 || wear > 99 || w.sights.size() == 12) {
      return NONE;
    }
    w.sights.add(new int[] {thing, week, wear});
    return w.sights.size();
  }

  int wrong() {
    int set = 0;
    for (int[] s : w.sights) {
      for (int[] t : w.sights) {
        if (s[0] == t[0] && (t[1] > s[1] && t[2] < s[2] || t[1] == s[1] && t[2] != s[2])) {
          set |= 1 << s[0];
        }
      }
      if (s[1] <= w.week && s[2] > w.pieces.get(s[0]).wear) {
        set |= 1 << s[0];
      }
    }
    return set;
  }

  int lasts() {
    int credit = w.credit;
    int weeks = 0;
    int cries = w.cries;
    while (credit > 0 && weeks <= 60) {
      credit = Math.max(0, credit - hold(first(w.weekly, "eat", names(NONE, w.week + weeks, cries, credit), 1), 0, 99));
      cries = Math.max(0, cries - 1);
      weeks++;
    }
    return weeks > 60 ? NONE : weeks;
  }

  int errand(int week, int n) {
    if (week == NONE) {
      w.errands.clear();
      return 0;
    }
    if (week < 0 || week > 60 || n < 1 || n > 20 || w.errands.size() == 12) {
      return NONE;
    }
    w.errands.add(new int[] {week, n});
    return w.errands.size();
  }

  int messengers(int what) {
    int[] busy = new int[100];
    for (int[] e : w.errands) {
      for (int i = 0; i < e[1]; i++) {
        busy[e[0] + i]++;
      }
    }
    int best = 0;
    for (int i = 0; i < 100; i++) {
      best = busy[i] > busy[best] ? i : best;
    }
    return what == 0 ? busy[best] : what == 1 && busy[best] > 0 ? best : NONE;
  }

  int hit(int what) {
    int thing = NONE;
    int most = NONE;
    for (int i = 0; i + 1 < w.pieces.size(); i++) {
      if (w.pieces.get(i).how == 0) {
        w.pieces.get(i).how = 2;
        int[] best = leastWay(true);
        w.pieces.get(i).how = 0;
        if (best != null && best[0] > most) {
          most = best[0];
          thing = i;
        }
      }
    }
    return what == 0 ? thing : what == 1 ? most : NONE;
  }

  // ---- memory

  boolean undo() {
    if (done.isEmpty()) {
      return false;
    }
    All back = done.removeLast();
    back.prices = w.prices;
    back.weekly = w.weekly;
    back.letters = w.letters;
    back.sights = w.sights;
    back.errands = w.errands;
    w = back;
    return true;
  }

  boolean image(boolean taken) {
    if (taken) {
      image = w.copy();
      return true;
    }
    if (image == null) {
      return false;
    }
    w = image.copy();
    done.clear();
    return true;
  }

  int look(int what) {
    return switch (what) {
      case 0 -> w.pieces.size();
      case 1 -> homeSet();
      case 2 -> w.week;
      case 3 -> w.gold;
      case 4 -> w.credit;
      case 5 -> w.cries;
      case 6 -> w.last;
      case 7 -> w.book.size();
      case 8 -> w.state;
      case 9 -> w.prices.size();
      case 10 -> w.weekly.size();
      case 11 -> w.hills.size();
      case 12 -> w.after.size();
      case 13 -> w.plan.size();
      case 14 -> w.letters.size();
      case 15 -> w.sights.size();
      case 16 -> w.errands.size();
      case 17 -> done.size();
      case 20 -> w.rival;
      case 21 -> w.cards;
      case 22 -> w.thaw;
      default -> -1000;
    };
  }
}
