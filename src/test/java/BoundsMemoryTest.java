/** The bounds that UNDO, THE IMAGE and promises 30 to 32 name, and what asking leaves as it was. */
public final class BoundsMemoryTest {
  private static final int MIN = Integer.MIN_VALUE;
  private static final int MAX = Integer.MAX_VALUE;
  private static final Check c = new Check();

  public static void main(String[] args) {
    undoNothing();
    undoSixOfMany();
    undoSixWeeks();
    undoEachKind();
    undoAndOn();
    refusedAreNotKept();
    whatForgets();
    whatDoesNot();
    notUndone();
    imageNone();
    imageOfNothing();
    imageOfMuch();
    imageOfTheBook();
    cameInThisWeek();
    imageMoreThanOnce();
    imageLeavesOut();
    lookBounds();
    lookFull();
    askingChangesNothing();
    callsToTheLast();
    c.finish();
  }

  /** Some of everything, with three deeds that can be undone, a FAULT and a text on the TAPE. */
  private static RansomPieces much() {
    RansomPieces x = Check.with(10, 20, 30, 40);
    x.set(0, 0, 500);
    x.set(1, 0, 50);
    x.set(2, 0, 4);
    x.set(3, 0, 300);
    x.set(4, 0, 60);
    x.set(5, 0, 20);
    Check.tell(x, 0, "price worth+week+cries+last/10+wears;");
    Check.tell(x, 1, "wear 2;eat 3;gain 5;");
    Check.tell(x, 2, "pass 0 from 0 to 9 mud 1;pass 1 from 2 to 30 mud 2;cave 3 by 0;cave 4 by 1;");
    Check.tell(x, 3, "1 after 0;");
    Check.tell(x, 4, "pay 1 by 0;cry 2;wait 1;");
    x.state(77);
    x.letter(15);
    x.letter(7);
    x.sight(0, 3, 4);
    x.sight(1, 0, 9);
    x.errand(1, 4);
    x.errand(3, 3);
    x.image(true);
    x.pay(0, 0);
    x.cry(3);
    x.weeks(1);
    Check.tell(x, 2, "pass 6");
    Check.feed(x, "price 7;");
    return x;
  }

  private static void undoNothing() {
    c.part("30: false if there is nothing");
    c.leaves("at first", () -> Check.open(10, 20), y -> y.undo() ? 1 : 0, 0);
    RansomPieces x = new RansomPieces();
    c.due("a new object", x.undo(), false);
    x.cry(5);
    c.due("one", x.undo(), true);
    c.due("CRIES", x.look(5), 0);
    c.due("no more", x.undo(), false);
    c.due("CRIES", x.look(5), 0);
  }

  private static void undoSixOfMany() {
    c.part("30: 6 are kept");
    for (int deeds = 0; deeds <= 14; deeds++) {
      RansomPieces x = new RansomPieces();
      for (int i = 0; i < deeds; i++) {
        x.cry(1);
        c.due("look(17)", x.look(17), Math.min(6, i + 1));
      }
      int kept = Math.min(6, deeds);
      for (int i = 1; i <= kept; i++) {
        c.due("undo " + i + " of " + deeds, x.undo(), true);
        c.due("CRIES", x.look(5), deeds - i);
        c.due("THE BOOK", x.look(7), deeds - i);
        c.due("look(17)", x.look(17), kept - i);
      }
      c.due("no more of " + deeds, x.undo(), false);
      c.due("CRIES", x.look(5), deeds - kept);
    }
  }

  private static void undoSixWeeks() {
    c.part("30: the latest WEEK goes back; 6 are kept");
    for (int n : new int[] {1, 5, 6, 7, 20}) {
      RansomPieces x = Check.with(10, 20, 30);
      x.cry(3);
      x.weeks(n);
      c.due("look(17)", x.look(17), Math.min(6, n + 1));
      for (int i = 1; i <= Math.min(6, n); i++) {
        c.due("a WEEK of " + n, x.undo(), true);
        c.due("WEEK", x.look(2), n - i);
        c.due("WEAR", x.of(0, 1), n - i);
      }
      c.due("the CRY ahead of " + n, x.undo(), n < 6);
      c.due("CRIES", x.look(5), n < 6 ? 0 : Math.max(0, 3 - Math.max(0, n - 6)));
    }
  }

  private static void undoEachKind() {
    c.part("30: the latest PAYING, CRY, WEEK, PLAN goes back (STATE, THE BOOK, too)");
    RansomPieces x = Check.open(10, 20, 30);
    x.set(1, 0, 50);
    x.set(3, 0, 1000);
    x.set(4, 0, 99);
    Check.tell(x, 4, "pay 1 by 0;cry 2;wait 2;");
    int[][] seen = new int[5][];
    seen[0] = looks(x);
    x.pay(0, 0);
    seen[1] = looks(x);
    x.cry(7);
    seen[2] = looks(x);
    x.weeks(1);
    seen[3] = looks(x);
    x.goes();
    seen[4] = looks(x);
    c.due("all are other", x.look(8) != seen[3][8] && x.look(1) == 3 && x.of(1, 2) == 1, true);
    for (int i = 3; i >= 0; i--) {
      c.due("undo", x.undo(), true);
      int[] now = looks(x);
      for (int j = 0; j < now.length; j++) {
        c.due("look(" + j + ") ahead of deed " + i, now[j], seen[i][j]);
      }
    }
    c.due("PAID", x.of(0, 3), 0);
    c.due("PASS", x.of(0, 4), -1);
    c.due("HOW", x.of(1, 2), 0);
    c.due("none came in this WEEK", x.of(0, 6), 1);
    c.due("no more", x.undo(), false);
  }

  private static int[] looks(RansomPieces x) {
    int[] seen = new int[17];
    for (int i = 0; i < seen.length; i++) {
      seen[i] = x.look(i);
    }
    return seen;
  }

  private static void undoAndOn() {
    c.part("30: not undone yet");
    RansomPieces x = new RansomPieces();
    for (int i = 1; i <= 6; i++) {
      x.cry(i);
    }
    x.undo();
    x.undo();
    c.due("1 .. 4", x.look(5), 10);
    x.cry(20);
    c.due("look(17)", x.look(17), 5);
    c.due("the new one", x.undo(), true);
    c.due("CRIES", x.look(5), 10);
    c.due("then the fourth", x.undo(), true);
    c.due("CRIES", x.look(5), 6);
    for (int i = 0; i < 8; i++) {
      x.cry(1);
    }
    for (int i = 0; i < 6; i++) {
      c.due("six of them", x.undo(), true);
    }
    c.due("no more", x.undo(), false);
    c.due("CRIES", x.look(5), 8);
  }

  private static void refusedAreNotKept() {
    c.part("30: what was refused is nothing done");
    RansomPieces x = much();
    c.due("look(17)", x.look(17), 3);
    x.pay(0, 0);
    x.pay(1, 5);
    x.cry(0);
    x.cry(21);
    x.weeks(0);
    x.weeks(21);
    c.due("look(17)", x.look(17), 3);
    x.end(0);
    c.due("an empty PLAN", x.text(4), 0);
    x.goes();
    c.due("A PLAN without a deed is one done", x.look(17), 1);
  }

  private static void forgot(String what, Seen.Call call) {
    RansomPieces x = much();
    x.end(0);
    call.on(x);
    c.due("look(17) behind " + what, x.look(17), 0);
    c.due("undo() behind " + what, x.undo(), false);
  }

  private static void whatForgets() {
    c.part("30: whatever else is told forgets them");
    forgot("state(77)", y -> y.state(77));
    forgot("thing(5)", y -> y.thing(5));
    for (int what = 0; what < 8; what++) {
      int one = what;
      forgot("set(" + what + ")", y -> y.set(one, 0, 7) ? 1 : 0);
      forgot("the same set(" + what + ")", y -> y.set(one, 0, one < 6 ? y.look(new int[] {3, 4, 5, 20, 21, 22}[one]) : y.of(0, one - 6)) ? 1 : 0);
    }
    forgot("THE HILLS", y -> Check.tell(y, 2, "cave 1 by 1;"));
    forgot("AFTER", y -> Check.tell(y, 3, "2 after 0;"));
    forgot("A PLAN", y -> Check.tell(y, 4, "cry 1;"));
    for (int k = 2; k < 5; k++) {
      int one = k;
      forgot("an empty TEXT " + k, y -> y.text(one));
    }
    forgot("THE IMAGE gone back to", y -> y.image(false) ? 1 : 0);
  }

  private static void kept(String what, Seen.Call call, long want) {
    RansomPieces x = much();
    x.end(0);
    int week = x.look(2);
    c.due(what, call.on(x), want);
    c.due("look(17) behind " + what, x.look(17), 3);
    c.due("undo() behind " + what, x.undo(), true);
    c.due("WEEK behind " + what, x.look(2), week - 1);
  }

  private static void whatDoesNot() {
    c.part("30: but LAWS, LETTERS, SIGHTS, ERRANDS (the taking of THE IMAGE does not)");
    kept("PRICES", y -> Check.tell(y, 0, "price 3;"), 1);
    kept("WEEKS", y -> Check.tell(y, 1, "eat 3;"), 1);
    kept("empty PRICES", y -> y.text(0), 0);
    kept("empty WEEKS", y -> y.text(1), 0);
    kept("a LETTER", y -> y.letter(3), 2);
    kept("a SIGHT", y -> y.sight(0, 1, 1), 3);
    kept("no SIGHTS", y -> y.sight(-1, 0, 0), 0);
    kept("an ERRAND", y -> y.errand(1, 1), 3);
    kept("no ERRANDS", y -> y.errand(-1, 0), 0);
    kept("THE IMAGE taken", y -> y.image(true) ? 1 : 0, 1);
    kept("feed", y -> y.feed(0, 0, 0, 0, 0), 20);
    kept("end", y -> y.end(0) ? 1 : 0, 1);
    kept("no such TEXT", y -> y.text(5), -1);
    kept("no such THING", y -> y.thing(1000), -1);
    kept("no such set", y -> y.set(8, 0, 0) ? 1 : 0, 0);
    kept("nothing to set", y -> y.set(0, 0, 100000) ? 1 : 0, 0);
    for (int k = 0; k < 5; k++) {
      int one = k;
      kept("TEXT " + k + " with a FAULT", y -> Check.tell(y, one, "#"), -1);
    }
  }

  private static void notUndone() {
    c.part("30: what was told since stays");
    RansomPieces x = much();
    x.end(0);
    Check.tell(x, 0, "price 3;");
    Check.tell(x, 1, "wear 9;eat 9;");
    x.letter(3);
    x.sight(-1, 0, 0);
    x.errand(-1, 0);
    for (int i = 0; i < 3; i++) {
      c.due("undo", x.undo(), true);
    }
    c.due("GOLD", x.look(3), 500);
    c.due("PRICES", x.of(0, 5), 3);
    c.due("lines", x.look(9), 1);
    c.due("lines", x.look(10), 2);
    c.due("LETTERS", x.look(14), 3);
    c.due("SIGHTS", x.look(15), 0);
    c.due("ERRANDS", x.look(16), 0);
    x.weeks(1);
    c.due("WEEKS", x.of(0, 1), 9);
  }

  private static void imageNone() {
    c.part("31: false if there is none");
    c.leaves("none taken", () -> {
      RansomPieces x = Check.open(10, 20);
      x.cry(4);
      x.weeks(2);
      return x;
    }, y -> y.image(false) ? 1 : 0, 0);
    RansomPieces x = new RansomPieces();
    c.due("none", x.image(false), false);
    c.due("taken", x.image(true), true);
    c.due("one", x.image(false), true);
  }

  private static void imageOfNothing() {
    c.part("31: THE IMAGE of a new object");
    RansomPieces x = new RansomPieces();
    x.image(true);
    int[] seen = looks(x);
    for (int i = 0; i < 8; i++) {
      x.thing(10);
    }
    for (int i = 0; i < 6; i++) {
      x.set(i, 0, 7);
    }
    x.state(9);
    Check.tell(x, 0, "price 3;");
    Check.tell(x, 1, "wear 3;");
    Check.tell(x, 2, "pass 0 from 0 to 60 mud 0;cave 1 by 1;");
    Check.tell(x, 3, "1 after 0;");
    Check.tell(x, 4, "cry 1;wait 1;");
    x.letter(1);
    x.sight(0, 0, 0);
    x.errand(0, 1);
    x.pay(0, 0);
    x.goes();
    c.due("gone back to", x.image(false), true);
    int[] now = looks(x);
    for (int i = 0; i < now.length; i++) {
      c.due("look(" + i + ")", now[i], seen[i]);
    }
    c.due("RIVAL", x.look(20), 0);
    c.due("CARDS", x.look(21), 0);
    c.due("THAW", x.look(22), 30);
    c.due("no PASS", x.mud(0, 0), -1);
    c.due("no CAVE", x.kept(), 0);
    c.due("no line", x.book(0, 0), -2);
    c.due("a THING", x.thing(77), 0);
    int[] of = {77, 0, 0, 0, -1, 77, 1, 0};
    for (int i = 0; i < of.length; i++) {
      c.due("of(0, " + i + ")", x.of(0, i), of[i]);
    }
  }

  /** As full as it can be: eight THINGS, 120 lines, all texts and lists at their most. */
  private static RansomPieces full() {
    RansomPieces x = Check.with(1, 2, 3, 4, 5, 6, 7, 8);
    x.set(0, 0, 99999);
    x.set(1, 0, 9999);
    x.set(3, 0, 1000);
    x.set(4, 0, 99);
    x.set(5, 0, 60);
    Check.tell(x, 4, Check.times("cry 1;", 60));
    x.goes();
    x.goes();
    Check.tell(x, 0, Check.times("price 3 when 1=2;", 15) + "price 4;");
    Check.tell(x, 1, Check.times("wear 3 when 1=2;", 15) + "wear 4;");
    Check.tell(x, 2, Check.times("cave 7 by 5;", 23) + "pass 5 from 0 to 60 mud 5;");
    Check.tell(x, 3, Check.times("1 after 0;", 11) + "6 after 5;");
    for (int i = 0; i < 8; i++) {
      x.letter(255);
    }
    for (int i = 0; i < 12; i++) {
      x.sight(7, 60, 88 + i);
      x.errand(60, 20);
    }
    x.pay(0, 5);
    return x;
  }

  private static void imageOfMuch() {
    c.part("31: all that is and was told, as it was when it was taken");
    RansomPieces x = full();
    int[] seen = looks(x);
    x.image(true);
    x.weeks(4);
    x.pay(3, 5);
    for (int i = 0; i < 8; i++) {
      x.set(i, 5, 1);
    }
    x.state(5);
    for (int k = 0; k < 5; k++) {
      x.text(k);
    }
    x.sight(-1, 0, 0);
    x.errand(-1, 0);
    for (int i = 0; i < 12; i++) {
      x.sight(1, i, i);
      x.errand(i, 1);
    }
    c.due("gone back to", x.image(false), true);
    int[] now = looks(x);
    for (int i = 0; i < now.length; i++) {
      c.due("look(" + i + ")", now[i], seen[i]);
    }
    c.due("RIVAL", x.look(20), 1000);
    c.due("CARDS", x.look(21), 99);
    c.due("THAW", x.look(22), 60);
    c.due("the 16th line of PRICES", x.of(5, 5), 4);
    c.due("the 24th of THE HILLS", x.mud(5, 60), 5);
    c.due("CAVES", x.kept(), 128);
    c.due("the 12th of AFTER", x.of(6, 7), 32);
    c.due("WORTH", x.of(5, 0), 6);
    c.due("WEAR", x.of(5, 1), 0);
    c.due("HOW", x.of(3, 2), 0);
    c.due("PAID", x.of(3, 3), 0);
    c.due("PASS", x.of(3, 4), -1);
    c.due("PASS", x.of(0, 4), 5);
    c.due("one came in this WEEK", x.of(2, 6), 0);
    c.due("the last line", x.book(119, 1), 1);
    c.due("LETTERS", x.letters(0), 40320);
    c.due("SIGHTS", x.wrong(), 128);
    c.due("ERRANDS", x.messengers(0), 12);
    c.due("60 deeds", x.goes(), 60);
    x.weeks(1);
    c.due("the 16th line of WEEKS", x.of(5, 1), 4);
  }

  private static void imageOfTheBook() {
    c.part("31: THE BOOK as it was, though it was undone and written anew since");
    RansomPieces x = new RansomPieces();
    x.cry(5);
    x.cry(6);
    x.image(true);
    x.undo();
    x.undo();
    x.weeks(1);
    x.cry(9);
    x.cry(8);
    x.cry(7);
    x.image(false);
    c.due("lines", x.look(7), 2);
    c.due("the first", x.book(0, 2), 5);
    c.due("the second", x.book(1, 2), 6);
    c.due("its WEEK", x.book(1, 0), 0);
    c.due("no third", x.book(2, 0), -2);
  }

  private static void cameInThisWeek() {
    c.part("30, 31: whether one came in this WEEK goes back too");
    RansomPieces x = Check.open(10, 20);
    x.image(true);
    x.pay(0, 0);
    x.undo();
    c.due("the PAYING undone", x.of(0, 6), 1);
    x.pay(0, 0);
    x.weeks(1);
    c.due("a WEEK on", x.of(1, 6), 1);
    x.undo();
    c.due("the WEEK undone", x.of(1, 6), 0);
    x.image(false);
    c.due("ahead of it", x.of(0, 6), 1);
    x.pay(0, 0);
    x.image(true);
    x.weeks(1);
    x.image(false);
    c.due("behind it", x.of(1, 6), 0);
  }

  private static void imageMoreThanOnce() {
    c.part("31: gone back to it may be more than once");
    RansomPieces x = new RansomPieces();
    x.set(2, 0, 10);
    x.image(true);
    for (int i = 1; i <= 5; i++) {
      c.due("it goes on", x.cry(i), 10 + i);
      c.due("gone back to", x.image(false), true);
      c.due("as it was", x.look(5), 10);
      c.due("nothing to undo", x.look(17), 0);
    }
    x.cry(5);
    x.image(true);
    c.due("taken anew: what can be undone stays", x.undo(), true);
    c.due("undone", x.look(5), 10);
    c.due("the latest", x.image(false), true);
    c.due("as it was", x.look(5), 15);
    c.due("nothing to undo", x.undo(), false);
  }

  private static void imageLeavesOut() {
    c.part("31: but the TAPE, fault() and what can be undone (nothing then)");
    RansomPieces x = new RansomPieces();
    x.cry(1);
    Check.feed(x, "price 1;");
    x.image(true);
    x.end(0);
    Check.tell(x, 2, "pass 6");
    Check.feed(x, "eat 5");
    x.image(false);
    c.due("fault(0)", x.fault(0), 2);
    c.due("fault(1)", x.fault(1), 5);
    c.due("the TAPE", x.end(6), false);
    c.due("the TAPE", x.end(5), true);
    c.due("nothing can be undone", x.look(17), 0);
    c.due("the TAPE's text", x.text(1), -1);
    c.due("its end", x.fault(1), 5);
  }

  private static void lookBounds() {
    c.part("32: NONE - 999 for another what");
    RansomPieces x = much();
    for (int what : new int[] {-1, -2, 18, 19, 23, 24, 1000, MIN, MAX}) {
      c.due("look(" + what + ")", x.look(what), -1000);
    }
    x.state(-1000);
    c.due("STATE as it is", x.look(8), -1000);
    x.state(MIN);
    c.due("STATE as it is", x.look(8), MIN);
    x.state(-1);
    c.due("STATE as it is", x.look(8), -1);
  }

  private static void lookFull() {
    c.part("32: all at their most");
    RansomPieces x = full();
    int[] due = {8, 1, 0, 99995, 9999, 99, 0, 120, 0, 16, 16, 24, 12, 60, 8, 12, 12, 1};
    for (int i = 0; i < due.length; i++) {
      c.due("look(" + i + ")", x.look(i), due[i]);
    }
    c.due("RIVAL", x.look(20), 1000);
    c.due("CARDS", x.look(21), 99);
    c.due("THAW", x.look(22), 60);
  }

  private static void asked(String name, Seen.Call call) {
    long answer = call.on(much());
    c.leaves(name, BoundsMemoryTest::much, call, answer);
  }

  private static void askingChangesNothing() {
    c.part("4 in the Terms: IN THOUGHT (nothing of it stays; no DRAWS)");
    asked("fault", y -> y.fault(0) + y.fault(1) + y.fault(2));
    asked("of", y -> y.of(0, 5) + y.of(1, 6) + y.of(2, 7) + y.of(9, 9));
    asked("mud", y -> y.mud(0, 5) + y.mud(9, 9));
    asked("book", y -> y.book(0, 0) + y.book(99, 0));
    for (int what : new int[] {0, 1, 2, 10, 15, MAX}) {
      asked("least(" + what + ")", y -> y.least(what));
      asked("orders(" + what + ")", y -> y.orders(what));
      asked("letters(" + what + ")", y -> y.letters(what));
      asked("messengers(" + what + ")", y -> y.messengers(what));
      asked("hit(" + what + ")", y -> y.hit(what));
      asked("look(" + what + ")", y -> y.look(what));
    }
    asked("fits", y -> y.fits(0, 99, 5, 1) + y.fits(0, 99, 99, 1));
    asked("kept", y -> y.kept());
    asked("wrong", y -> y.wrong());
    asked("lasts", y -> y.lasts());
    asked("cards", y -> y.cards(1, 12, 3, 0) + y.cards(0, 0, 0, 0));
    asked("share", y -> y.share(100, 2, 3, 2) + y.share(-1, 0, 0, 0));
  }

  private static void callsToTheLast() {
    c.part("an object is used for at most 512 calls");
    RansomPieces x = new RansomPieces();
    for (int i = 1; i < 512; i++) {
      c.due("call " + i, x.cry(1), Math.min(99, i));
    }
    c.due("call 512", x.look(7), 120);
    x = new RansomPieces();
    for (int i = 0; i < 510; i++) {
      x.state(i);
    }
    c.due("call 511", x.state(7), 509);
    c.due("call 512", x.look(8), 7);
  }
}
