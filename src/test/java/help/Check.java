import java.io.File;
import java.util.function.Supplier;

/** What the tests of the project share: counting wrong answers, telling texts. */
final class Check {
  private int wrong;
  private int asked;
  private String part = "";

  void part(String name) {
    part = name;
  }

  void due(String call, long got, long want) {
    asked++;
    if (got != want) {
      wrong++;
      System.out.println(part + ": " + call + " answered " + got + ", due is " + want);
    }
  }

  void due(String call, boolean got, boolean want) {
    due(call, got ? 1 : 0, want ? 1 : 0);
  }

  /** Puts a text on the TAPE, which must have room for whole twenties. */
  static void feed(RansomPieces x, String text) {
    StringBuilder whole = new StringBuilder(text);
    while (whole.length() % 20 != 0) {
      whole.append('#');
    }
    int has = 0;
    for (int i = 0; i < whole.length(); i += 20) {
      int[] n = new int[5];
      for (int j = 0; j < 20; j++) {
        n[j / 4] = n[j / 4] << 8 | whole.charAt(i + j) & 255;
      }
      has = x.feed(n[0], n[1], n[2], n[3], n[4]);
      if (has == -1) {
        throw new IllegalStateException("the TAPE is full");
      }
    }
    x.end(has - (whole.length() - text.length()));
  }

  static int tell(RansomPieces x, int k, String text) {
    feed(x, text);
    return x.text(k);
  }

  void sound(RansomPieces x, int k, String text, int lines) {
    due("text(" + k + ") of '" + text + "'", tell(x, k, text), lines);
    due("fault(0) behind '" + text + "'", x.fault(0), 0);
    due("fault(1) behind '" + text + "'", x.fault(1), -1);
  }

  void faulty(RansomPieces x, int k, String text, int fault, int place) {
    due("text(" + k + ") of '" + text + "'", tell(x, k, text), -1);
    due("fault(0) of '" + text + "'", x.fault(0), fault);
    due("fault(1) of '" + text + "'", x.fault(1), place);
  }

  /** The place is where the @ stands, which is no part of the text. */
  void faultAt(RansomPieces x, int k, int fault, String marked) {
    int place = marked.indexOf('@');
    faulty(x, k, marked.substring(0, place) + marked.substring(place + 1), fault, place);
  }

  /** That a call answers so and changes nothing: its object and a twin that did not have the call look the same then. */
  void leaves(String name, Supplier<RansomPieces> made, Seen.Call call, long want) {
    RansomPieces x = made.get();
    due(name, call.on(x), want);
    String[] had = Seen.of(x).split("\n");
    String[] twin = Seen.of(made.get()).split("\n");
    int i = 0;
    while (i < had.length && i < twin.length && had[i].equals(twin[i])) {
      i++;
    }
    boolean same = had.length == twin.length && i == had.length;
    due(name + " changes nothing" + (same || i >= had.length || i >= twin.length ? "" : " (" + had[i] + ", was " + twin[i] + ")"),
        same, true);
  }

  /** A STATE (not below from) from which the first DRAW of m is this one. */
  static int stateFor(int from, int m, int draw) {
    int state = from;
    while (((state * 1664525 + 1013904223) >>> 8) % m != draw) {
      state++;
    }
    return state;
  }

  static String times(String text, int n) {
    return text.repeat(n);
  }

  /** An object with THINGS of these WORTHS. */
  static RansomPieces with(int... worths) {
    RansomPieces x = new RansomPieces();
    for (int worth : worths) {
      x.thing(worth);
    }
    return x;
  }

  /** The same with a PASS 0 that is always open, and gold enough. */
  static RansomPieces open(int... worths) {
    RansomPieces x = with(worths);
    tell(x, 2, "pass 0 from 0 to 60 mud 0;");
    x.set(0, 0, 99999);
    return x;
  }

  /** What a test put into a room of its own is gone behind it. */
  static void clear(File room) {
    File[] inside = room.listFiles();
    for (File one : inside == null ? new File[0] : inside) {
      clear(one);
    }
    room.delete();
  }

  void finish() {
    System.out.println(wrong == 0 ? asked + " answers are as due" : wrong + " of " + asked + " answers are not as due");
    if (wrong != 0) {
      System.exit(1);
    }
  }
}
