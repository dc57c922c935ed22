import java.util.function.Supplier;

/** The bounds that Terms 1 and promises 1 to 4 name: what is told, the last that is taken and the first that is not. */
public final class BoundsTellTest {
  private static final int MIN = Integer.MIN_VALUE;
  private static final int MAX = Integer.MAX_VALUE;
  private static final Check c = new Check();

  public static void main(String[] args) {
    atFirst();
    state();
    draws();
    rivalBounds();
    cardsBounds();
    thingNumbers();
    thingWorths();
    himHome();
    afterIsEmpty();
    him();
    setBounds();
    setWho();
    setWhat();
    passesAndCaves();
    weekBounds();
    c.finish();
  }

  private static void atFirst() {
    c.part("1: nothing taken; 'at first' of Terms 1 and 2");
    RansomPieces x = new RansomPieces();
    int[] due = {0, 0, 0, 0, 0, 0, -1, 0, 0, 0, 0, 0, 0, 0, 0, 0, 0, 0, -1000, -1000, 0, 0, 30};
    for (int i = 0; i < due.length; i++) {
      c.due("look(" + i + ")", x.look(i), due[i]);
    }
    c.due("no THING", x.of(0, 0), -2);
    c.due("THE BOOK is empty", x.book(0, 0), -2);
    c.due("THE HILLS are empty", x.mud(0, 0), -1);
    c.due("no CAVE", x.kept(), 0);
    c.due("the TAPE is empty", x.end(1), false);
    c.due("the TAPE is empty", x.end(0), true);
    c.due("no FAULT", x.fault(0), 0);
    c.due("no place", x.fault(1), -1);
    c.due("nothing to undo", x.undo(), false);
    c.due("no IMAGE", x.image(false), false);
    c.due("a THING", x.thing(12), 0);
    int[] of = {12, 0, 0, 0, -1, 12, 1, 0};
    for (int i = 0; i < of.length; i++) {
      c.due("of(0, " + i + ")", x.of(0, i), of[i]);
    }
  }

  private static void state() {
    c.part("2: STATE (an int, 0 at first)");
    RansomPieces x = new RansomPieces();
    c.due("state(MAX)", x.state(MAX), 0);
    c.due("look(8)", x.look(8), MAX);
    c.due("state(MIN)", x.state(MIN), MAX);
    c.due("look(8)", x.look(8), MIN);
    c.due("state(-1)", x.state(-1), MIN);
    c.due("state(0)", x.state(0), -1);
    c.due("look(8)", x.look(8), 0);
  }

  /** The STATE behind one DRAW, by longs, which don't wrap. */
  private static int behind(int state) {
    return (int) (state * 1664525L + 1013904223L & 0xffffffffL);
  }

  private static void draws() {
    c.part("a DRAW (ints, which wrap; the highest 24 bits without sign)");
    for (int state : new int[] {0, 1, -1, MAX, MIN, 1290, -1290, 1 << 30}) {
      RansomPieces x = new RansomPieces();
      x.set(3, 0, 1);
      x.state(state);
      x.weeks(1);
      c.due("behind " + state, x.look(8), behind(state));
    }
    int signs = 0;
    for (int i = 0; i < 12; i++) {
      int state = i % 2 == 0 ? i : MIN + i;
      int next = behind(state);
      signs |= next < 0 ? 1 : 2;
      int draw = (int) (((next & 0xffffffffL) >> 8) % 1000);
      RansomPieces x = Check.with(1, 2);
      x.state(state);
      x.set(3, 0, draw);
      c.due("RIVAL " + draw + " at STATE " + state, x.weeks(1), 0);
      x.state(state);
      x.set(3, 0, draw + 1);
      c.due("RIVAL " + (draw + 1) + " at STATE " + state, x.weeks(1), 1);
    }
    c.due("STATES of both signs were seen", signs, 3);
  }

  private static int took(int rival, int draw) {
    RansomPieces x = Check.with(1, 2);
    x.set(3, 0, rival);
    x.state(Check.stateFor(5, 1000, draw));
    return x.weeks(1);
  }

  private static void rivalBounds() {
    c.part("RIVAL 0 .. 1000: if it is above 0, a DRAW of 1000: below RIVAL ..");
    RansomPieces x = Check.with(1, 2);
    x.weeks(1);
    c.due("no DRAW at RIVAL 0", x.look(8), 0);
    c.due("RIVAL 0, DRAW 0", took(0, 0), 0);
    c.due("RIVAL 1, DRAW 0", took(1, 0), 1);
    c.due("RIVAL 1, DRAW 1", took(1, 1), 0);
    c.due("RIVAL 1, DRAW 999", took(1, 999), 0);
    c.due("RIVAL 999, DRAW 998", took(999, 998), 1);
    c.due("RIVAL 999, DRAW 999", took(999, 999), 0);
    c.due("RIVAL 1000, DRAW 999", took(1000, 999), 1);
    c.due("RIVAL 1000, DRAW 0", took(1000, 0), 1);
  }

  private static int credit(int cards, int draw) {
    RansomPieces x = new RansomPieces();
    Check.tell(x, 1, "eat 0;gain 7;");
    x.set(1, 0, 10);
    x.set(4, 0, cards);
    x.state(Check.stateFor(5, 100, draw));
    x.weeks(1);
    return x.look(4);
  }

  private static void cardsBounds() {
    c.part("CARDS 0 .. 99: gain if CARDS are above a DRAW of 100");
    c.due("CARDS 0, DRAW 0", credit(0, 0), 10);
    c.due("CARDS 1, DRAW 0", credit(1, 0), 17);
    c.due("CARDS 1, DRAW 1", credit(1, 1), 10);
    c.due("CARDS 50, DRAW 49", credit(50, 49), 17);
    c.due("CARDS 50, DRAW 50", credit(50, 50), 10);
    c.due("CARDS 99, DRAW 98", credit(99, 98), 17);
    c.due("CARDS 99, DRAW 99", credit(99, 99), 10);
  }

  private static RansomPieces eight() {
    RansomPieces x = Check.open(1, 2, 3, 4, 5, 6, 7, 8);
    Check.tell(x, 3, "1 after 0;");
    x.cry(3);
    return x;
  }

  private static void thingNumbers() {
    c.part("3: THINGS 0 .. 7 as they come; NONE if there are eight");
    RansomPieces x = new RansomPieces();
    for (int i = 0; i < 8; i++) {
      c.due("look(0)", x.look(0), i);
      c.due("no THING " + i + " yet", x.of(i, 0), -2);
      c.due("a THING", x.thing(10 + i), i);
      c.due("its WORTH", x.of(i, 0), 10 + i);
    }
    c.due("a ninth", x.thing(0), -1);
    c.due("look(0)", x.look(0), 8);
    c.due("no THING 8", x.of(8, 0), -2);
    c.leaves("a ninth", BoundsTellTest::eight, y -> y.thing(5), -1);
  }

  private static RansomPieces some() {
    RansomPieces x = Check.open(10, 20, 30);
    Check.tell(x, 3, "1 after 0;");
    Check.tell(x, 4, "cry 1;wait 1;");
    x.image(true);
    x.cry(3);
    x.weeks(2);
    Check.feed(x, "price 7;");
    return x;
  }

  private static void refusedThing(int worth) {
    c.leaves("thing(" + worth + ")", BoundsTellTest::some, y -> y.thing(worth), -1);
  }

  private static void thingWorths() {
    c.part("3: WORTH 0 .. 999; NONE if one can't be");
    RansomPieces x = new RansomPieces();
    c.due("thing(0)", x.thing(0), 0);
    c.due("of(0, 0)", x.of(0, 0), 0);
    c.due("thing(999)", x.thing(999), 1);
    c.due("of(1, 0)", x.of(1, 0), 999);
    refusedThing(-1);
    refusedThing(1000);
    refusedThing(MIN);
    refusedThing(MAX);
  }

  private static RansomPieces whole() {
    RansomPieces x = Check.open(10, 20);
    Check.tell(x, 3, "1 after 0;");
    x.pay(0, 0);
    x.weeks(1);
    x.pay(1, 0);
    return x;
  }

  private static void himHome() {
    c.part("3: NONE if HIM is HOME");
    c.leaves("HIM is HOME", BoundsTellTest::whole, y -> y.thing(5), -1);
    RansomPieces x = whole();
    x.undo();
    c.due("HIM is HOME no more", x.thing(5), 2);
    x = Check.open(10, 20);
    x.pay(0, 0);
    c.due("all but HIM are HOME", x.thing(5), 2);
    x = Check.open(10);
    x.pay(0, 0);
    c.due("HIM alone is HOME", x.thing(5), -1);
  }

  private static void afterIsEmpty() {
    c.part("3: AFTER is empty then");
    RansomPieces x = some();
    c.due("lines", x.look(12), 1);
    c.due("of(1, 7)", x.of(1, 7), 1);
    x.thing(1000);
    c.due("lines behind a refused one", x.look(12), 1);
    c.due("a THING", x.thing(40), 3);
    c.due("lines", x.look(12), 0);
    for (int i = 0; i < 4; i++) {
      c.due("of(" + i + ", 7)", x.of(i, 7), 0);
    }
    c.due("THE HILLS stay", x.look(11), 1);
    c.due("A PLAN stays", x.look(13), 2);
  }

  private static void him() {
    c.part("HIM: the last THING; he is not HOME ahead of all others");
    RansomPieces x = Check.open(10);
    c.due("HIM alone may COME", x.of(0, 6), 1);
    x.thing(20);
    c.due("no longer HIM", x.of(0, 6), 1);
    c.due("HIM", x.of(1, 6), 0);
    c.due("HIM ahead of all others", x.pay(1, 0), -1);
    x.thing(30);
    c.due("no longer HIM", x.of(1, 6), 1);
    c.due("HIM", x.of(2, 6), 0);
    x.pay(1, 0);
    x.weeks(1);
    c.due("HIM ahead of one", x.pay(2, 0), -1);
    x.pay(0, 0);
    x.weeks(1);
    c.due("HIM last", x.pay(2, 0), 30);
    c.due("all are HOME", x.look(1), 7);
  }

  private static void refusedSet(int what, int who, int v) {
    Supplier<RansomPieces> made = BoundsTellTest::some;
    c.leaves("set(" + what + ", " + who + ", " + v + ")", made, y -> y.set(what, who, v) ? 1 : 0, 0);
  }

  private static void setBounds() {
    c.part("4: GOLD 0 .. 99999, CREDIT 0 .. 9999, CRIES 0 .. 99, RIVAL 0 .. 1000, CARDS 0 .. 99, THAW 0 .. 60");
    int[] most = {99999, 9999, 99, 1000, 99, 60, 999, 99};
    int[] seen = {3, 4, 5, 20, 21, 22};
    for (int i = 0; i < 8; i++) {
      RansomPieces x = Check.with(500, 600);
      for (int v : new int[] {0, 1, most[i] - 1, most[i]}) {
        c.due("set(" + i + ", 1, " + v + ")", x.set(i, 1, v), true);
        c.due("seen", i < 6 ? x.look(seen[i]) : x.of(1, i - 6), v);
      }
      for (int v : new int[] {-1, most[i] + 1, MIN, MAX}) {
        refusedSet(i, 1, v);
      }
    }
  }

  private static void setWho() {
    c.part("4: who not asked; of THING who");
    RansomPieces x = new RansomPieces();
    for (int i = 0; i < 6; i++) {
      for (int who : new int[] {MIN, -1, 0, 8, MAX}) {
        c.due("set(" + i + ", " + who + ", 5)", x.set(i, who, 5), true);
      }
    }
    c.due("no THING", x.set(6, 0, 5), false);
    c.due("no THING", x.set(7, 0, 5), false);
    x.thing(10);
    x.thing(20);
    for (int i = 6; i < 8; i++) {
      c.due("the first THING", x.set(i, 0, 7), true);
      c.due("the last THING", x.set(i, 1, 8), true);
      c.due("seen", x.of(0, i - 6), 7);
      c.due("seen", x.of(1, i - 6), 8);
      for (int who : new int[] {-1, 3, 8, MIN, MAX}) {
        refusedSet(i, who, 5);
      }
    }
    for (int i = 2; i < 8; i++) {
      x.thing(30);
    }
    c.due("THING 7", x.set(6, 7, 999), true);
    c.due("seen", x.of(7, 0), 999);
    c.due("THING 8", x.set(6, 8, 999), false);
  }

  private static void setWhat() {
    c.part("4: false for another what");
    for (int what : new int[] {-1, 8, 9, MIN, MAX}) {
      refusedSet(what, 0, 0);
    }
  }

  private static void passesAndCaves() {
    c.part("PASSES 0 .. 5, CAVES 0 .. 7");
    RansomPieces x = Check.with(1, 2, 3);
    x.set(0, 0, 99);
    Check.tell(x, 2, "pass 0 from 0 to 60 mud 0;pass 5 from 0 to 60 mud 5;cave 0 by 0;cave 7 by 5;cave 3 by 5;cave 3 by 0;");
    c.due("mud(-1, 0)", x.mud(-1, 0), -1);
    c.due("mud(0, 0)", x.mud(0, 0), 0);
    c.due("mud(5, 0)", x.mud(5, 0), 5);
    c.due("mud(6, 0)", x.mud(6, 0), -1);
    c.due("CAVES", x.kept(), 1 + 128 + 8);
    c.due("by PASS -1", x.pay(0, -1), -1);
    c.due("by PASS 6", x.pay(0, 6), -1);
    c.due("by PASS 5", x.pay(0, 5), 1);
    c.due("its PASS", x.of(0, 4), 5);
    c.due("CAVES", x.kept(), 128 + 8);
    x.weeks(1);
    c.due("by PASS 0", x.pay(1, 0), 2);
    c.due("its PASS", x.of(1, 4), 0);
    c.due("CAVES", x.kept(), 8);
  }

  private static void weekBounds() {
    c.part("WEEK 0 .. 60 (0 at first); LAST none at first");
    RansomPieces x = Check.open(10, 20);
    c.due("LAST", x.look(6), -1);
    c.due("WEEK", x.look(2), 0);
    c.due("pay in WEEK 0", x.pay(0, 0), 10);
    c.due("LAST", x.look(6), 0);
    x.weeks(20);
    x.weeks(20);
    x.weeks(20);
    c.due("WEEK", x.look(2), 60);
    c.due("WEEK 61", x.weeks(1), -1);
    c.due("pay in WEEK 60", x.pay(1, 0), 20);
    c.due("LAST", x.look(6), 1);
    c.due("THE BOOK's WEEK", x.book(1, 0), 60);
  }
}
