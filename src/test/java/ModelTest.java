import java.util.Random;

/** Runs of chance calls (from fixed seeds) on the class and on the slow model side by side. */
public final class ModelTest {
  private static final int RUNS = 1500;
  private static final int CALLS = 250;

  private static Random chance;
  private static RansomPieces x;
  private static SlowModel m;
  private static StringBuilder story;
  private static boolean wrong;

  public static void main(String[] args) {
    int runs = args.length > 0 ? Integer.parseInt(args[0]) : RUNS;
    int from = args.length > 1 ? Integer.parseInt(args[1]) : 0;
    int failed = 0;
    for (int seed = from; seed < from + runs && failed < 5; seed++) {
      if (!run(seed)) {
        failed++;
      }
    }
    System.out.println(failed == 0 ? runs + " runs are as the model's" : "runs are not as the model's");
    if (failed != 0) {
      System.exit(1);
    }
  }

  private static boolean run(int seed) {
    chance = new Random(seed);
    x = new RansomPieces();
    m = new SlowModel();
    story = new StringBuilder();
    wrong = false;
    int things = below(9);
    for (int i = 0; i < things; i++) {
      int worth = below(4) == 0 ? below(1000) : below(60);
      same("thing(" + worth + ")", x.thing(worth), m.thing(worth));
    }
    if (below(5) > 0) {
      tell(2, "pass 0 from 0 to " + below(61) + " mud 1;pass " + below(6) + " from 10 to 60 mud 2;");
      set(0, 0, below(100000));
    }
    for (int i = 0; i < CALLS && !wrong; i++) {
      call();
    }
    if (wrong) {
      String all = story.toString();
      System.out.println("seed " + seed + ":\n" + all.substring(Math.max(0, all.length() - 6000)));
    }
    return !wrong;
  }

  private static int below(int n) {
    return chance.nextInt(n);
  }

  /** Mostly within low .. high, at times just or far outside. */
  private static int around(int low, int high) {
    int kind = below(20);
    if (kind == 0) {
      return low - 1;
    }
    if (kind == 1) {
      return high + 1;
    }
    if (kind == 2) {
      return below(2) == 0 ? low : high;
    }
    return kind == 3 && below(5) == 0 ? chance.nextInt() : low + below(Math.max(1, high - low + 1));
  }

  private static void same(String call, long got, long want) {
    story.append(call).append(" -> ").append(got);
    if (got != want) {
      story.append(", the model's is ").append(want);
      wrong = true;
    }
    story.append('\n');
  }

  private static void same(String call, boolean got, boolean want) {
    same(call, got ? 1 : 0, want ? 1 : 0);
  }

  private static void set(int what, int who, int v) {
    same("set(" + what + ", " + who + ", " + v + ")", x.set(what, who, v), m.set(what, who, v));
  }

  private static void call() {
    int kind = below(100);
    if (kind < 30) {
      deed();
    } else if (kind < 45) {
      telling();
    } else if (kind < 55) {
      int k = below(40) == 0 ? around(0, 4) : below(5);
      tell(k, chanceText(Math.max(0, Math.min(4, k))));
    } else if (kind < 90) {
      thinking();
    } else {
      memory();
    }
  }

  private static void deed() {
    switch (below(6)) {
      case 0, 1, 2 -> {
        int thing = around(0, Math.max(0, x.look(0) - 1));
        int pass = below(3) > 0 ? 0 : around(0, 5);
        same("pay(" + thing + ", " + pass + ")", x.pay(thing, pass), m.pay(thing, pass));
      }
      case 3 -> {
        int n = around(1, 20);
        same("cry(" + n + ")", x.cry(n), m.cry(n));
      }
      case 4 -> {
        int n = below(3) > 0 ? 1 : below(4) == 0 ? around(1, 20) : below(4);
        same("weeks(" + n + ")", x.weeks(n), m.weeks(n));
      }
      default -> same("goes()", x.goes(), m.goes());
    }
  }

  private static void telling() {
    int[] most = {99999, 9999, 99, 1000, 99, 60, 999, 99};
    int last = Math.max(0, x.look(0) - 1);
    switch (below(9)) {
      case 0, 1 -> {
        int what = below(20) == 0 ? around(0, 7) : below(8);
        int v = around(0, what >= 0 && what < 8 ? most[what] : 9);
        set(what, around(0, last), what == 1 && below(2) == 0 ? below(80) : v);
      }
      case 2 -> {
        int v = chance.nextInt();
        same("state(" + v + ")", x.state(v), m.state(v));
      }
      case 3 -> {
        int v = around(0, 999);
        same("thing(" + v + ")", x.thing(v), m.thing(v));
      }
      case 4, 5 -> {
        int v = below(3) == 0 ? around(0, (1 << last + 1) - 1) : (1 << below(last + 2)) - 1;
        same("letter(" + v + ")", x.letter(v), m.letter(v));
      }
      case 6, 7 -> {
        int t = around(0, last);
        int week = around(0, 60);
        int wear = below(2) == 0 ? Math.min(99, week) : around(0, 99);
        same("sight(" + t + ", " + week + ", " + wear + ")", x.sight(t, week, wear), m.sight(t, week, wear));
      }
      default -> {
        int week = around(0, 60);
        int n = around(1, 20);
        same("errand(" + week + ", " + n + ")", x.errand(week, n), m.errand(week, n));
      }
    }
  }

  private static int listed(int most) {
    return below(3) == 0 ? 0 : below(8) == 0 ? around(0, 12) : 10 + below(most);
  }

  private static void thinking() {
    int last = Math.max(0, x.look(0) - 1);
    switch (below(15)) {
      case 0, 1 -> {
        int t = around(0, last);
        int what = around(0, 7);
        same("of(" + t + ", " + what + ")", x.of(t, what), m.of(t, what));
      }
      case 2 -> {
        int p = around(0, 5);
        int week = around(0, 60);
        same("mud(" + p + ", " + week + ")", x.mud(p, week), m.mud(p, week));
      }
      case 3 -> {
        int i = around(0, Math.max(0, x.look(7) - 1));
        int what = around(0, 4);
        same("book(" + i + ", " + what + ")", x.book(i, what), m.book(i, what));
      }
      case 4, 5, 6 -> {
        int what = below(3) == 0 ? 1 : listed(40);
        same("least(" + what + ")", x.least(what), m.least(what));
      }
      case 7 -> {
        int what = listed(9);
        same("orders(" + what + ")", x.orders(what), m.orders(what));
      }
      case 8 -> {
        int a = around(0, 99);
        int b = around(0, 99);
        int week = around(0, 60);
        int mud = around(0, 5);
        same("fits(" + a + ", " + b + ", " + week + ", " + mud + ")", x.fits(a, b, week, mud), m.fits(a, b, week, mud));
      }
      case 9 -> same("kept()", x.kept(), m.kept());
      case 10 -> {
        int what = listed(9);
        same("letters(" + what + ")", x.letters(what), m.letters(what));
      }
      case 11 -> same("wrong()", x.wrong(), m.wrong());
      case 12 -> same("lasts()", x.lasts(), m.lasts());
      case 13 -> {
        int what = around(0, 1);
        same("messengers(" + what + ")", x.messengers(what), m.messengers(what));
      }
      default -> {
        int what = around(0, 1);
        same("hit(" + what + ")", x.hit(what), m.hit(what));
      }
    }
  }

  private static void memory() {
    switch (below(8)) {
      case 0, 1, 2 -> same("undo()", x.undo(), m.undo());
      case 3 -> {
        boolean taken = below(2) == 0;
        same("image(" + taken + ")", x.image(taken), m.image(taken));
      }
      case 4 -> {
        int what = around(0, 1);
        same("fault(" + what + ")", x.fault(what), m.fault(what));
      }
      default -> {
        for (int i = -1; i <= 24; i++) {
          same("look(" + i + ")", x.look(i), m.look(i));
        }
      }
    }
  }

  // ---- texts

  private static void tell(int k, String whole) {
    String text = whole.length() > 400 ? whole.substring(0, 400) : whole;
    for (int i = 0; i < text.length(); i += 20) {
      int[] n = new int[5];
      for (int j = 0; j < 20; j++) {
        n[j / 4] = n[j / 4] << 8 | (i + j < text.length() ? text.charAt(i + j) & 255 : 32);
      }
      same("feed", x.feed(n[0], n[1], n[2], n[3], n[4]), m.feed(n));
    }
    same("end(" + text.length() + ")", x.end(text.length()), m.end(text.length()));
    story.append('\'').append(text).append("'\n");
    same("text(" + k + ")", x.text(k), m.text(k));
    same("fault(0)", x.fault(0), m.fault(0));
    same("fault(1)", x.fault(1), m.fault(1));
  }

  private static String chanceText(int k) {
    StringBuilder text = new StringBuilder();
    int lines = below(12) == 0 ? below(30) : below(5);
    for (int i = 0; i < lines; i++) {
      switch (k) {
        case 0 -> text.append("price ").append(law(true));
        case 1 -> text.append(new String[] {"wear ", "eat ", "gain "}[below(3)]).append(law(false));
        case 2 -> {
          if (below(2) == 0) {
            int from = around(0, 60);
            text.append("pass ").append(around(0, 5)).append(" from ").append(from).append(" to ")
                .append(around(from, 60)).append("\nmud ").append(around(0, 5)).append(';');
          } else {
            text.append("cave ").append(around(0, 7)).append(" by ").append(below(2)).append(';');
          }
        }
        case 3 -> {
          text.append(thing()).append(" after ").append(thing());
          while (below(3) == 0) {
            text.append(' ').append(thing());
          }
          text.append(';');
        }
        default -> text.append(deeds(0));
      }
    }
    return below(6) == 0 ? spoilt(text) : text.toString();
  }

  private static int thing() {
    return below(30) == 0 ? around(0, 7) : below(Math.max(1, x.look(0)));
  }

  private static String spoilt(StringBuilder text) {
    String signs = ";+-*/()<=> \n\tx0123459Z\u00e9\u0000";
    int many = 1 + below(2);
    for (int i = 0; i < many; i++) {
      int at = below(text.length() + 1);
      switch (below(4)) {
        case 0 -> text.insert(at, signs.charAt(below(signs.length())));
        case 1 -> text.insert(at, new String[] {" not ", " last ", " home ", "when", " or ", "again 2(", "price "}[below(7)]);
        case 2 -> text.setLength(at);
        default -> {
          if (at < text.length()) {
            text.deleteCharAt(at);
          }
        }
      }
    }
    return text.toString();
  }

  private static String law(boolean prices) {
    return sum(prices) + (below(2) == 0 ? " when " + either(prices, 0) : "") + ";";
  }

  private static String sum(boolean prices) {
    StringBuilder s = new StringBuilder(product(prices));
    while (below(2) == 0) {
      s.append(below(3) == 0 ? "-" : " + ").append(product(prices));
    }
    return s.toString();
  }

  private static String product(boolean prices) {
    StringBuilder s = new StringBuilder(unit(prices));
    while (below(3) == 0) {
      if (below(2) == 0) {
        s.append('*').append(unit(prices));
      } else {
        s.append('/').append(below(40) == 0 ? 0 : 1 + below(20));
      }
    }
    return s.toString();
  }

  private static String unit(boolean prices) {
    String[] words = {"thing", "worth", "wears", "week", "cries", "rival", "credit", "home", "last"};
    if (below(2) == 0) {
      return words[below(prices || below(50) == 0 ? 9 : 7)];
    }
    return Integer.toString(below(6) == 0 ? below(10000) : below(70) == 0 ? below(100000) : below(40));
  }

  private static String either(boolean prices, int depth) {
    StringBuilder s = new StringBuilder(condition(prices, depth));
    while (below(4) == 0) {
      s.append(below(2) == 0 ? " or " : " and ").append(condition(prices, depth));
    }
    return s.toString();
  }

  private static String condition(boolean prices, int depth) {
    int deeper = depth < 12 ? below(depth == 0 ? 12 : 3) : 2;
    if (deeper == 0) {
      return "not " + condition(prices, depth + 1);
    }
    if (deeper == 1) {
      return "(" + either(prices, depth + 1) + ")";
    }
    return sum(prices) + "<=>".charAt(below(3)) + sum(prices);
  }

  private static String deeds(int depth) {
    return switch (below(depth < 6 ? 4 : 3)) {
      case 0 -> "pay " + thing() + " by " + (below(10) == 0 ? around(0, 5) : 0) + ";";
      case 1 -> "cry " + around(1, 20) + ";";
      case 2 -> "wait " + (below(5) == 0 ? around(1, 20) : 1) + ";";
      default -> {
        StringBuilder s = new StringBuilder("again " + (below(5) == 0 ? around(1, 9) : 1 + below(3)) + "(");
        while (below(3) > 0) {
          s.append(deeds(depth + 1));
        }
        yield s + ") ";
      }
    };
  }
}
