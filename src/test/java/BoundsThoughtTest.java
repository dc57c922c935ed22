/** The bounds that Terms 4 and promises 16 to 29 name. */
public final class BoundsThoughtTest {
  private static final int MIN = Integer.MIN_VALUE;
  private static final int MAX = Integer.MAX_VALUE;
  private static final Check c = new Check();

  public static void main(String[] args) {
    leastOfNothing();
    leastByThaw();
    leastByOpenWeeks();
    leastWhenOneCame();
    leastAtTheEnds();
    leastWhat();
    leastHeldPrices();
    leastFirstWay();
    waiting();
    ordersOfAll();
    ordersWhat();
    ordersNone();
    fitsBounds();
    fitsWear();
    fitsNone();
    kept();
    letterBounds();
    lettersFull();
    lettersWhat();
    sightBounds();
    sightsFull();
    falseByLater();
    falseByTwoInOne();
    falseByNow();
    lasts();
    cardsBounds();
    cardsAtTheEnds();
    shareBounds();
    errandBounds();
    errandsFull();
    messengers();
    messengersWhat();
    hitNone();
    hitOfSeveral();
    c.finish();
  }

  private static int[] worths(int n) {
    int[] worths = new int[n];
    for (int i = 0; i < n; i++) {
      worths[i] = 10 + i;
    }
    return worths;
  }

  private static void go(RansomPieces x, int weeks) {
    for (int left = weeks; left > 0; left -= 20) {
      x.weeks(Math.min(20, left));
    }
  }

  // ---- 16

  private static void leastOfNothing() {
    c.part("16: nothing is to come");
    RansomPieces x = new RansomPieces();
    go(x, 30);
    c.due("WEEK is THAW", x.least(0), 0);
    c.due("WAITING", x.least(1), 0);
    c.due("the THING of it", x.least(10), -1);
    x.weeks(1);
    c.due("WEEK is behind THAW", x.least(0), -1);
    c.due("WEEK is behind THAW", x.least(1), -1);
    x = Check.open(10);
    x.set(5, 0, 0);
    x.pay(0, 0);
    c.due("all HOME", x.least(0), 0);
    c.due("all HOME", x.least(1), 0);
    c.due("all HOME", x.least(10), -1);
    x.weeks(1);
    c.due("all HOME, WEEK behind THAW", x.least(0), -1);
    c.due("all HOME, WEEK behind THAW", x.least(1), -1);
  }

  private static void leastByThaw() {
    c.part("16: from this WEEK to THAW, one THING a WEEK at most");
    for (int n = 1; n <= 8; n++) {
      RansomPieces x = Check.open(worths(n));
      int sum = 10 * n + n * (n - 1) / 2;
      x.set(5, 0, n - 1);
      c.due(n + " THINGS in as many WEEKS", x.least(0), sum);
      c.due("no WEEK to wait", x.least(1), -1);
      for (int k = 0; k < n; k++) {
        c.due("the THING of WEEK " + k, x.least(10 + k), k);
      }
      c.due("behind THAW", x.least(10 + n), -1);
      x.set(5, 0, n);
      c.due("a WEEK more", x.least(0), sum);
      c.due("a WEEK to wait", x.least(1), 0);
      c.due("none in the last", x.least(10 + n), -1);
      if (n > 1) {
        x.set(5, 0, n - 2);
        c.due("a WEEK less", x.least(0), -1);
        c.due("a WEEK less", x.least(1), -1);
        c.due("a WEEK less", x.least(10), -1);
      }
    }
    RansomPieces x = Check.open(10);
    x.weeks(1);
    x.set(5, 0, 1);
    c.due("THAW in this WEEK", x.least(0), 10);
    x.set(5, 0, 0);
    c.due("THAW a WEEK ago", x.least(0), -1);
    c.due("THAW a WEEK ago", x.least(10), -1);
  }

  private static void leastByOpenWeeks() {
    c.part("16: by PASSES that are open (any)");
    RansomPieces x = Check.with(1, 2, 3);
    x.set(5, 0, 10);
    c.due("no PASS", x.least(0), -1);
    Check.tell(x, 2, "cave 0 by 0;");
    c.due("a CAVE alone", x.least(0), -1);
    Check.tell(x, 2, "pass 0 from 3 to 4 mud 0;pass 5 from 4 to 4 mud 5;");
    c.due("two WEEKS", x.least(0), -1);
    Check.tell(x, 2, "pass 0 from 3 to 4 mud 0;pass 5 from 10 to 12 mud 5;");
    c.due("three WEEKS, the last at THAW", x.least(0), 6);
    int[] due = {-1, -1, -1, 0, 1, -1, -1, -1, -1, -1, 2};
    for (int k = 0; k < due.length; k++) {
      c.due("least(" + (10 + k) + ")", x.least(10 + k), due[k]);
    }
    Check.tell(x, 2, "pass 0 from 3 to 4 mud 0;pass 5 from 11 to 12 mud 5;");
    c.due("the third is behind THAW", x.least(0), -1);
    Check.tell(x, 2, "pass 0 from 0 to 2 mud 0;");
    c.due("from this WEEK on", x.least(0), 6);
    x.weeks(1);
    c.due("a WEEK too late", x.least(0), -1);
  }

  private static void leastWhenOneCame() {
    c.part("16: none in this WEEK if one came");
    RansomPieces x = Check.open(1, 2, 3);
    x.set(5, 0, 2);
    x.pay(0, 0);
    c.due("in the WEEKS to come", x.least(0), 5);
    c.due("none now", x.least(10), -1);
    c.due("then", x.least(11), 1);
    c.due("then", x.least(12), 2);
    c.due("nothing can be paid now anyway", x.least(1), 0);
    x.set(5, 0, 1);
    c.due("one WEEK too few", x.least(0), -1);
    x.weeks(1);
    c.due("one WEEK too few", x.least(0), -1);
    x.set(5, 0, 2);
    c.due("then", x.least(10), 1);
  }

  private static void leastAtTheEnds() {
    c.part("16: WEEKS 0 and 60");
    RansomPieces x = Check.open(7, 8);
    go(x, 59);
    x.set(5, 0, 60);
    c.due("in WEEKS 59 and 60", x.least(0), 15);
    c.due("59", x.least(10), 0);
    c.due("60", x.least(11), 1);
    c.due("61", x.least(12), -1);
    x.pay(0, 0);
    x.weeks(1);
    c.due("in WEEK 60", x.least(0), 8);
    c.due("60", x.least(10), 1);
    c.due("no waiting", x.least(1), -1);
    x = Check.open(7, 8);
    x.set(5, 0, 60);
    Check.tell(x, 0, "price 900-week*10;");
    c.due("as late as can be", x.least(0), 310 + 300);
    c.due("58", x.least(10 + 58), -1);
    c.due("59", x.least(10 + 59), 0);
    c.due("60", x.least(10 + 60), 1);
    c.due("61", x.least(10 + 61), -1);
  }

  private static void leastWhat() {
    c.part("16: what 0, 1, 10 + k; NONE for another what");
    RansomPieces x = Check.open(7, 8);
    for (int what : new int[] {-1, 2, 3, 4, 5, 6, 7, 8, 9, MIN, MIN + 1, MAX, MAX - 9, 41, 42, 71}) {
      c.due("least(" + what + ")", x.least(what), -1);
    }
    c.due("GOLD is not asked", x.set(0, 0, 0), true);
    c.due("least(0)", x.least(0), 15);
    c.due("least(10)", x.least(10), 0);
    Check.tell(x, 0, "price 31-week;");
    c.due("the last WEEK: THAW", x.least(40), 1);
    c.due("behind it", x.least(41), -1);
  }

  private static void leastHeldPrices() {
    c.part("16: PRICES held to 1 .. 9999 in thought too");
    RansomPieces x = Check.open(worths(8));
    Check.tell(x, 0, "price 9999*9999;");
    c.due("9999 each", x.least(0), 8 * 9999);
    Check.tell(x, 0, "price 9999*9999*22;");
    c.due("1 each", x.least(0), 8);
    Check.tell(x, 0, "price 0-week;");
    c.due("1 each", x.least(0), 8);
    c.due("and no WEEK costs", x.least(1), 0);
    Check.tell(x, 0, "price home+1;");
    c.due("home 0 .. 7", x.least(0), 36);
    Check.tell(x, 0, "price 5 when last=0;price 100+last;");
    c.due("last: 0 without one", x.least(0), 5 + 700 + 10 + 11 + 12 + 13 + 14 + 15 + 16);
  }

  private static void leastFirstWay() {
    c.part("16: of several ways the first (WEEK by WEEK: the lesser THING, none last)");
    RansomPieces x = Check.open(5, 5, 5);
    c.due("the lesser, none last", x.least(10), 0);
    c.due("the lesser, none last", x.least(11), 1);
    c.due("the lesser, none last", x.least(12), 2);
    c.due("none then", x.least(13), -1);
    Check.tell(x, 3, "0 after 1;");
    c.due("by AFTER", x.least(10), 1);
    c.due("by AFTER", x.least(11), 0);
    Check.tell(x, 3, "");
    Check.tell(x, 0, "price 9 when week=0;price 5;");
    c.due("cheaper to wait", x.least(10), -1);
    c.due("cheaper to wait", x.least(0), 15);
    Check.tell(x, 0, "price 9 when week=0 and thing=0;price 5;");
    c.due("the lesser is dearer now", x.least(10), 1);
    c.due("then the lesser", x.least(11), 0);
  }

  private static void waiting() {
    c.part("16: WAITING; NONE if it can't be by waiting");
    RansomPieces x = Check.open(5, 5);
    x.set(5, 0, 2);
    Check.tell(x, 0, "price 10+week*7;");
    c.due("LEAST", x.least(0), 10 + 17);
    c.due("a WEEK costs", x.least(1), 14);
    x.weeks(1);
    c.due("LEAST", x.least(0), 17 + 24);
    c.due("it can't wait", x.least(1), -1);
    x.weeks(1);
    c.due("it can't be", x.least(0), -1);
    c.due("it can't be", x.least(1), -1);
  }

  // ---- 17

  private static void ordersOfAll() {
    c.part("17: in how many orders all that are not HOME can come");
    int[] many = {1, 1, 1, 2, 6, 24, 120, 720, 5040};
    for (int n = 0; n <= 8; n++) {
      RansomPieces x = Check.with(worths(n));
      c.due(n + " THINGS", x.orders(0), many[n]);
      for (int i = 0; i < n; i++) {
        c.due("orders(" + (10 + i) + ")", x.orders(10 + i), i);
      }
      c.due("no more of them", x.orders(10 + n), -1);
    }
    RansomPieces x = Check.open(1, 2, 3);
    x.pay(1, 0);
    c.due("one HOME, in this WEEK", x.orders(0), 1);
    c.due("the first", x.orders(10), 0);
    c.due("the second", x.orders(11), 2);
    c.due("no third", x.orders(12), -1);
    x = Check.open(1);
    x.pay(0, 0);
    c.due("all HOME", x.orders(0), 1);
    c.due("all HOME", x.orders(10), -1);
  }

  private static void ordersWhat() {
    c.part("17: NONE for another what");
    RansomPieces x = Check.with(1, 2, 3);
    for (int what : new int[] {-1, 1, 2, 8, 9, 13, 18, MIN, MAX}) {
      c.due("orders(" + what + ")", x.orders(what), -1);
    }
  }

  private static void ordersNone() {
    c.part("17: NONE if there is none (10 + i)");
    String[] never = {"0 after 1;1 after 0;", "0 after 3;", "0 after 1;1 after 2;2 after 0;", "2 after 3;"};
    for (String after : never) {
      RansomPieces x = Check.with(1, 2, 3, 4);
      Check.tell(x, 3, after);
      c.due("'" + after + "'", x.orders(0), 0);
      for (int i = 0; i < 4; i++) {
        c.due("'" + after + "' " + i, x.orders(10 + i), -1);
      }
    }
    RansomPieces x = Check.with(1, 2, 3, 4);
    Check.tell(x, 3, "0 after 1 2;1 after 2;3 after 0;");
    c.due("one alone", x.orders(0), 1);
    c.due("the first", x.orders(10), 2);
    c.due("the last", x.orders(13), 3);
  }

  // ---- 18, 19

  private static RansomPieces worn() {
    RansomPieces x = Check.with(1, 2, 3, 4);
    x.set(0, 0, 99);
    Check.tell(x, 2, "pass 0 from 0 to 60 mud 0;pass 5 from 60 to 60 mud 5;pass 1 from 0 to 0 mud 5;pass 2 from 7 to 9 mud 3;");
    x.set(7, 1, 5);
    x.set(7, 2, 98);
    x.set(7, 3, 99);
    return x;
  }

  private static void fitsBounds() {
    c.part("18: NONE if one can't be (WEEK 0 .. 60, MUD 0 .. 5)");
    RansomPieces x = worn();
    c.due("WEEK 0", x.fits(0, 99, 0, 5), 15);
    c.due("WEEK 60", x.fits(0, 99, 60, 5), 15);
    c.due("WEEK -1", x.fits(0, 99, -1, 5), -1);
    c.due("WEEK 61", x.fits(0, 99, 61, 5), -1);
    c.due("WEEK MIN", x.fits(0, 99, MIN, 5), -1);
    c.due("WEEK MAX", x.fits(0, 99, MAX, 5), -1);
    c.due("MUD 0", x.fits(0, 99, 0, 0), 15);
    c.due("MUD -1", x.fits(0, 99, 0, -1), -1);
    c.due("MUD -1, not open", x.fits(0, 99, 30, -1), -1);
    c.due("MUD 6", x.fits(0, 99, 0, 6), -1);
    c.due("MUD MIN", x.fits(0, 99, 0, MIN), -1);
    c.due("MUD MAX", x.fits(0, 99, 0, MAX), -1);
  }

  private static void fitsWear() {
    c.part("18: with a WEAR of a .. b");
    RansomPieces x = worn();
    int[][] due = {
      {0, 0, 1}, {0, 4, 1}, {0, 5, 3}, {1, 4, 0}, {1, 5, 2}, {5, 5, 2}, {5, 6, 2}, {6, 97, 0}, {6, 98, 4}, {98, 98, 4}, {98, 99, 12},
      {99, 99, 8}, {0, 99, 15}, {5, 4, 0}, {99, 0, 0}, {MIN, MAX, 15}, {MAX, MIN, 0}
    };
    for (int[] one : due) {
      c.due("WEAR " + one[0] + " .. " + one[1], x.fits(one[0], one[1], 0, 0), one[2]);
    }
  }

  private static void fitsNone() {
    c.part("18: THINGS that are not HOME; none if no PASS has that MUD open in that WEEK");
    RansomPieces x = worn();
    c.due("ahead", x.fits(0, 99, 6, 3), 0);
    c.due("from", x.fits(0, 99, 7, 3), 15);
    c.due("to", x.fits(0, 99, 9, 3), 15);
    c.due("behind", x.fits(0, 99, 10, 3), 0);
    c.due("no such MUD", x.fits(0, 99, 8, 2), 0);
    c.due("not in that WEEK", x.fits(0, 99, 8, 5), 0);
    x.set(3, 0, 1000);
    x.weeks(1);
    c.due("with the RIVAL", x.of(0, 2), 2);
    c.due("with the RIVAL too", x.fits(0, 99, 8, 3), 15);
    x.pay(1, 0);
    c.due("not what is HOME", x.fits(0, 99, 8, 3), 13);
    c.due("no THING", new RansomPieces().fits(0, 99, 8, 3), 0);
  }

  private static void kept() {
    c.part("19: CAVES by all PASSES by which THINGS came HOME; none came: all that have a line");
    RansomPieces x = Check.open(1, 2, 3);
    c.due("no line of a CAVE", x.kept(), 0);
    Check.tell(x, 2, "pass 0 from 0 to 60 mud 0;pass 1 from 0 to 60 mud 0;"
        + "cave 0 by 0;cave 1 by 1;cave 2 by 0;cave 2 by 1;cave 3 by 5;cave 7 by 0;cave 7 by 1;");
    c.due("none came", x.kept(), 1 + 2 + 4 + 8 + 128);
    x.pay(0, 0);
    c.due("by 0", x.kept(), 1 + 4 + 128);
    x.weeks(1);
    x.pay(1, 0);
    c.due("by 0 twice", x.kept(), 1 + 4 + 128);
    x.weeks(1);
    x.pay(2, 1);
    c.due("by 0 and 1", x.kept(), 4 + 128);
    x.undo();
    c.due("undone", x.kept(), 1 + 4 + 128);
    Check.tell(x, 2, "");
    c.due("no line at all", x.kept(), 0);
    c.due("nothing at all", new RansomPieces().kept(), 0);
  }

  // ---- 20, 21

  private static void letterBounds() {
    c.part("20: a set of THINGS that there are; NONE if one can't be");
    for (int n = 0; n <= 8; n++) {
      RansomPieces x = Check.with(worths(n));
      c.due(n + " THINGS: none of them", x.letter(0), 0);
      c.due(n + " THINGS: all of them", x.letter((1 << n) - 1), 1);
      c.due(n + " THINGS: one beyond", x.letter(1 << n), -1);
      c.due(n + " THINGS: one beyond, and one", x.letter((1 << n) + 1), -1);
      c.due("look(14)", x.look(14), 2);
    }
    for (int set : new int[] {-1, 8, 9, 256, MIN, MIN + 1, MAX}) {
      c.leaves("letter(" + set + ")", BoundsThoughtTest::told, y -> y.letter(set), -1);
    }
    RansomPieces x = Check.open(1);
    x.pay(0, 0);
    c.due("what is HOME can be said too", x.letter(1), 0);
  }

  private static RansomPieces told() {
    RansomPieces x = Check.open(10, 20, 30);
    x.image(true);
    x.cry(3);
    x.letter(7);
    x.letter(3);
    x.sight(0, 5, 5);
    x.sight(1, 0, 2);
    x.errand(3, 4);
    x.errand(4, 4);
    Check.feed(x, "price 7;");
    return x;
  }

  private static RansomPieces eightLetters() {
    RansomPieces x = told();
    for (int i = 2; i < 8; i++) {
      x.letter(1);
    }
    return x;
  }

  private static void lettersFull() {
    c.part("20: LETTERS 0 .. 7; NONE if there are eight");
    RansomPieces x = Check.with(1, 2);
    for (int i = 0; i < 8; i++) {
      c.due("look(14)", x.look(14), i);
      c.due("a LETTER", x.letter(3), i);
    }
    c.due("a ninth", x.letter(3), -1);
    c.due("look(14)", x.look(14), 8);
    c.due("orders of eight", x.letters(0), 40320);
    c.due("the first", x.letters(10), 0);
    c.due("the last", x.letters(17), 7);
    c.due("no ninth", x.letters(18), -1);
    c.leaves("a ninth", BoundsThoughtTest::eightLetters, y -> y.letter(0), -1);
  }

  private static void lettersWhat() {
    c.part("21: each set within that of the one ahead (or the same); NONE if there is none (10 + i), or another what");
    RansomPieces x = Check.with(1, 2, 3);
    c.due("without LETTERS", x.letters(10), -1);
    x.letter(1);
    c.due("one", x.letters(0), 1);
    c.due("one", x.letters(10), 0);
    c.due("no second", x.letters(11), -1);
    x.letter(3);
    c.due("two", x.letters(0), 1);
    c.due("the greater", x.letters(10), 1);
    c.due("the lesser", x.letters(11), 0);
    c.due("no third", x.letters(12), -1);
    x.letter(3);
    c.due("two are the same", x.letters(0), 2);
    c.due("the lesser LETTER first", x.letters(10), 1);
    c.due("then the other", x.letters(11), 2);
    for (int what : new int[] {-1, 1, 2, 9, 13, 18, MIN, MAX}) {
      c.due("letters(" + what + ")", x.letters(what), -1);
    }
    x.letter(4);
    c.due("neither within the other", x.letters(0), 0);
    for (int i = 0; i < 4; i++) {
      c.due("none", x.letters(10 + i), -1);
    }
    x = Check.with(1, 2, 3);
    x.letter(0);
    x.letter(0);
    x.letter(4);
    c.due("empty ones", x.letters(0), 2);
    c.due("the first", x.letters(10), 2);
  }

  // ---- 22, 23

  private static void sightBounds() {
    c.part("22: NONE if one can't be (WEEK 0 .. 60, WEAR 0 .. 99)");
    int[][] cant = {
      {-2, 0, 0}, {3, 0, 0}, {8, 0, 0}, {MIN, 0, 0}, {MAX, 0, 0}, {0, -1, 0}, {0, 61, 0}, {0, MIN, 0}, {0, MAX, 0}, {0, 0, -1},
      {0, 0, 100}, {0, 0, MIN}, {0, 0, MAX}
    };
    for (int[] one : cant) {
      c.leaves("sight(" + one[0] + ", " + one[1] + ", " + one[2] + ")", BoundsThoughtTest::told,
          y -> y.sight(one[0], one[1], one[2]), -1);
    }
    RansomPieces x = Check.with(1, 2, 3);
    int[][] can = {{0, 0, 0}, {2, 0, 0}, {0, 60, 0}, {0, 0, 99}, {2, 60, 99}};
    for (int i = 0; i < can.length; i++) {
      c.due("sight " + i, x.sight(can[i][0], can[i][1], can[i][2]), i + 1);
    }
    c.due("no THING", new RansomPieces().sight(0, 0, 0), -1);
    c.due("none of none", new RansomPieces().sight(-1, 0, 0), 0);
  }

  private static RansomPieces twelveSights() {
    RansomPieces x = told();
    for (int i = 2; i < 12; i++) {
      x.sight(2, 10, 10);
    }
    return x;
  }

  private static void sightsFull() {
    c.part("22: up to 12; NONE if there are twelve; thing NONE: none is then");
    RansomPieces x = Check.with(1, 2);
    for (int round = 0; round < 2; round++) {
      for (int i = 1; i <= 12; i++) {
        c.due("a SIGHT", x.sight(0, 30, i == 12 ? 6 : 5), i);
        c.due("look(15)", x.look(15), i);
        c.due("FALSE by the twelfth", x.wrong(), i == 12 ? 1 : 0);
      }
      c.due("a thirteenth", x.sight(1, 0, 99), -1);
      c.due("it is none", x.wrong(), 1);
      c.due("none is then", x.sight(-1, MIN, MAX), 0);
      c.due("look(15)", x.look(15), 0);
      c.due("wrong()", x.wrong(), 0);
    }
    c.leaves("a thirteenth", BoundsThoughtTest::twelveSights, y -> y.sight(0, 0, 99), -1);
  }

  private static int wrong(int week, int wear, int[]... sights) {
    RansomPieces x = Check.with(1, 2, 3);
    go(x, week);
    x.set(7, 0, wear);
    for (int[] one : sights) {
      x.sight(0, one[0], one[1]);
    }
    return x.wrong();
  }

  private static void falseByLater() {
    c.part("23: seen with a lesser WEAR in a later WEEK");
    c.due("the same", wrong(0, 0, new int[] {10, 5}, new int[] {11, 5}), 0);
    c.due("more", wrong(0, 0, new int[] {10, 5}, new int[] {11, 6}), 0);
    c.due("less", wrong(0, 0, new int[] {10, 5}, new int[] {11, 4}), 1);
    c.due("less, the later told first", wrong(0, 0, new int[] {11, 4}, new int[] {10, 5}), 1);
    c.due("less, far apart", wrong(0, 0, new int[] {1, 1}, new int[] {60, 0}), 1);
    c.due("more, far apart", wrong(0, 0, new int[] {1, 0}, new int[] {60, 99}), 0);
    RansomPieces x = Check.with(1, 2);
    x.sight(0, 10, 5);
    x.sight(1, 11, 4);
    c.due("two THINGS", x.wrong(), 0);
  }

  private static void falseByTwoInOne() {
    c.part("23: or with two in one");
    c.due("the same twice", wrong(0, 0, new int[] {10, 5}, new int[] {10, 5}), 0);
    c.due("one more", wrong(0, 0, new int[] {10, 5}, new int[] {10, 6}), 1);
    c.due("one less", wrong(0, 0, new int[] {10, 5}, new int[] {10, 4}), 1);
    RansomPieces x = Check.with(1, 2);
    x.sight(0, 10, 5);
    x.sight(1, 10, 4);
    c.due("two THINGS", x.wrong(), 0);
  }

  private static void falseByNow() {
    c.part("23: or with a greater one than now in a WEEK that is behind or this one");
    c.due("as now, this WEEK", wrong(5, 7, new int[] {5, 7}), 0);
    c.due("more, this WEEK", wrong(5, 7, new int[] {5, 8}), 1);
    c.due("less, this WEEK", wrong(5, 7, new int[] {5, 6}), 0);
    c.due("as now, behind", wrong(5, 7, new int[] {4, 7}), 0);
    c.due("more, behind", wrong(5, 7, new int[] {4, 8}), 1);
    c.due("more, in WEEK 0", wrong(5, 7, new int[] {0, 99}), 1);
    c.due("more, to come", wrong(5, 7, new int[] {6, 8}), 0);
    c.due("less, to come", wrong(5, 7, new int[] {6, 0}), 0);
    RansomPieces x = Check.open(1, 2);
    x.pay(0, 0);
    x.weeks(3);
    x.sight(0, 3, 1);
    c.due("HOME: its WEAR stays", x.wrong(), 1);
    c.due("no SIGHT", Check.with(1).wrong(), 0);
    x = Check.with(worths(8));
    x.sight(7, 0, 1);
    c.due("THING 7", x.wrong(), 128);
    x.sight(0, 0, 1);
    c.due("THING 0 too", x.wrong(), 129);
  }

  // ---- 24 to 28

  private static int lasting(int credit, String law) {
    RansomPieces x = new RansomPieces();
    x.set(1, 0, credit);
    Check.tell(x, 1, law);
    return x.lasts();
  }

  private static void lasts() {
    c.part("24: how many WEEKS until it is 0 (60 at most); NONE if longer");
    c.due("CREDIT 0", lasting(0, ""), 0);
    c.due("CREDIT 0, eat 0", lasting(0, "eat 0;"), 0);
    c.due("CREDIT 1", lasting(1, ""), 1);
    c.due("CREDIT 59", lasting(59, ""), 59);
    c.due("CREDIT 60", lasting(60, ""), 60);
    c.due("CREDIT 61", lasting(61, ""), -1);
    c.due("CREDIT 9999", lasting(9999, ""), -1);
    c.due("eat 0", lasting(1, "eat 0;"), -1);
    c.due("eat below 0", lasting(1, "eat 0-5;"), -1);
    c.due("CREDIT 5940, eat 99", lasting(5940, "eat 99;"), 60);
    c.due("CREDIT 5941, eat 99", lasting(5941, "eat 99;"), -1);
    c.due("CREDIT 100, eat 100", lasting(100, "eat 100;"), 2);
    c.due("CREDIT 99, eat 100", lasting(99, "eat 100;"), 1);
    c.due("CREDIT 98, eat 99", lasting(98, "eat 99;"), 1);
    c.due("CRIES 0 at least", lasting(3, "eat cries+1;"), 3);
    RansomPieces x = new RansomPieces();
    x.set(1, 0, 3);
    x.set(4, 0, 99);
    Check.tell(x, 1, "gain 99;");
    c.due("no gain in thought", x.lasts(), 3);
    c.due("CREDIT stays", x.look(4), 3);
    c.due("no DRAW", x.look(8), 0);
    c.due("no WEEK", x.look(2), 0);
  }

  private static void cardsBounds() {
    c.part("25: NONE if one can't be (g 2 .. 12, c 1 .. g - 1; p 1 .. 9), or another what");
    int[][] cant = {
      {1, 1, 5, 0}, {1, 13, 5, 0}, {1, 0, 5, 0}, {1, -1, 5, 0}, {1, MIN, 5, 0}, {1, MAX, 5, 0}, {0, 2, 5, 0}, {2, 2, 5, 0}, {3, 2, 5, 0},
      {-1, 12, 5, 0}, {0, 12, 5, 0}, {12, 12, 5, 0}, {13, 12, 5, 0}, {MIN, 12, 5, 0}, {MAX, 12, 5, 0}, {1, 2, 0, 0}, {1, 2, 10, 0},
      {1, 2, -1, 0}, {1, 2, MIN, 0}, {1, 2, MAX, 0}, {1, 2, 5, -1}, {1, 2, 5, 2}, {1, 2, 5, MIN}, {1, 2, 5, MAX}
    };
    RansomPieces x = new RansomPieces();
    for (int[] one : cant) {
      c.due("cards(" + one[0] + ", " + one[1] + ", " + one[2] + ", " + one[3] + ")", x.cards(one[0], one[1], one[2], one[3]), -1);
    }
  }

  private static void cardsAtTheEnds() {
    c.part("25: the chance that he has all, as a fraction in lowest terms");
    long[][] due = {
      {1, 2, 1, 1, 10}, {1, 2, 9, 9, 10}, {1, 2, 5, 1, 2}, {1, 12, 1, 1, 35303692060L}, {11, 12, 1, 3922632451L, 35303692060L},
      {1, 12, 9, 31381059609L, 35303692060L}, {11, 12, 9, 35303692059L, 35303692060L}, {1, 12, 5, 1, 12}, {11, 12, 5, 11, 12},
      {6, 12, 5, 1, 2}, {1, 3, 4, 4, 19}, {2, 3, 4, 10, 19}, {6, 12, 3, 729, 118378}
    };
    RansomPieces x = new RansomPieces();
    for (long[] one : due) {
      String call = "cards(" + one[0] + ", " + one[1] + ", " + one[2] + ", ";
      c.due(call + "0)", x.cards((int) one[0], (int) one[1], (int) one[2], 0), one[3]);
      c.due(call + "1)", x.cards((int) one[0], (int) one[1], (int) one[2], 1), one[4]);
    }
  }

  private static void shareBounds() {
    c.part("26: NONE if one can't be (a sum 0 .. 99999, c, d 1 .. 99), or another what");
    int[][] due = {
      {99999, 99, 1, 98999, 999, 1}, {99999, 1, 99, 999, 98999, 1}, {99999, 99, 99, 49999, 49999, 1}, {99999, 1, 1, 49999, 49999, 1},
      {0, 1, 1, 0, 0, 0}, {0, 99, 99, 0, 0, 0}, {1, 1, 1, 0, 0, 1}, {2, 1, 1, 1, 1, 0}, {1, 99, 1, 0, 0, 1}, {197, 99, 99, 98, 98, 1},
      {198, 99, 99, 99, 99, 0}
    };
    RansomPieces x = new RansomPieces();
    for (int[] one : due) {
      for (int what = 0; what < 3; what++) {
        c.due("share(" + one[0] + ", " + one[1] + ", " + one[2] + ", " + what + ")", x.share(one[0], one[1], one[2], what), one[3 + what]);
      }
    }
    int[][] cant = {
      {-1, 1, 1, 0}, {100000, 1, 1, 0}, {MIN, 1, 1, 0}, {MAX, 1, 1, 0}, {5, 0, 1, 0}, {5, 100, 1, 0}, {5, -1, 1, 0}, {5, MIN, 1, 0},
      {5, MAX, 1, 0}, {5, 1, 0, 0}, {5, 1, 100, 0}, {5, 1, -1, 0}, {5, 1, MIN, 0}, {5, 1, MAX, 0}, {5, 1, 1, -1}, {5, 1, 1, 3},
      {5, 1, 1, MIN}, {5, 1, 1, MAX}, {5, 0, 0, 0}, {5, 1, -1, 2}, {-1, 1, 1, 2}, {-1, 99, 99, 2}, {100000, 1, 1, 2}
    };
    for (int[] one : cant) {
      c.due("share(" + one[0] + ", " + one[1] + ", " + one[2] + ", " + one[3] + ")", x.share(one[0], one[1], one[2], one[3]), -1);
    }
  }

  private static void errandBounds() {
    c.part("27: NONE if one can't be (WEEK 0 .. 60, n 1 .. 20)");
    int[][] cant = {{-2, 1}, {61, 1}, {MIN, 1}, {MAX, 1}, {0, 0}, {0, 21}, {0, -1}, {0, MIN}, {0, MAX}};
    for (int[] one : cant) {
      c.leaves("errand(" + one[0] + ", " + one[1] + ")", BoundsThoughtTest::told, y -> y.errand(one[0], one[1]), -1);
    }
    RansomPieces x = new RansomPieces();
    int[][] can = {{0, 1}, {60, 1}, {0, 20}, {60, 20}};
    for (int i = 0; i < can.length; i++) {
      c.due("errand " + i, x.errand(can[i][0], can[i][1]), i + 1);
      c.due("look(16)", x.look(16), i + 1);
    }
    c.due("none of none", new RansomPieces().errand(-1, 1), 0);
  }

  private static RansomPieces twelveErrands() {
    RansomPieces x = told();
    for (int i = 2; i < 12; i++) {
      x.errand(30, 1);
    }
    return x;
  }

  private static void errandsFull() {
    c.part("27: up to 12; NONE if there are twelve; week NONE: none is then");
    RansomPieces x = new RansomPieces();
    for (int round = 0; round < 2; round++) {
      for (int i = 1; i <= 12; i++) {
        c.due("an ERRAND", x.errand(40, 2), i);
        c.due("MESSENGERS", x.messengers(0), i);
      }
      c.due("a thirteenth", x.errand(40, 2), -1);
      c.due("it is none", x.messengers(0), 12);
      c.due("none is then", x.errand(-1, MIN), 0);
      c.due("look(16)", x.look(16), 0);
      c.due("no MESSENGERS", x.messengers(0), 0);
    }
    c.leaves("a thirteenth", BoundsThoughtTest::twelveErrands, y -> y.errand(0, 1), -1);
  }

  private static void under(int many, int week, int[]... errands) {
    RansomPieces x = new RansomPieces();
    for (int[] one : errands) {
      x.errand(one[0], one[1]);
    }
    c.due("how many", x.messengers(0), many);
    c.due("the WEEK", x.messengers(1), week);
  }

  private static void messengers() {
    c.part("28: one that ends ahead of a WEEK is free in it; the WEEK, the first, in which so many are under way");
    under(1, 5, new int[] {5, 3}, new int[] {8, 1});
    under(2, 7, new int[] {5, 3}, new int[] {7, 1});
    under(1, 4, new int[] {5, 1}, new int[] {4, 1});
    under(2, 5, new int[] {5, 1}, new int[] {4, 2});
    under(1, 0, new int[] {60, 20}, new int[] {0, 20}, new int[] {20, 20}, new int[] {40, 20});
    under(2, 59, new int[] {40, 20}, new int[] {59, 1}, new int[] {60, 1});
    under(2, 60, new int[] {41, 20}, new int[] {60, 20});
    under(2, 3, new int[] {10, 2}, new int[] {11, 2}, new int[] {3, 1}, new int[] {3, 1});
    under(3, 6, new int[] {0, 7}, new int[] {6, 1}, new int[] {6, 9}, new int[] {7, 9});
  }

  private static void messengersWhat() {
    c.part("28: NONE without ERRANDS; NONE for another what");
    RansomPieces x = new RansomPieces();
    for (int round = 0; round < 2; round++) {
      for (int what : new int[] {-1, 2, MIN, MAX}) {
        c.due("messengers(" + what + ")", x.messengers(what), -1);
      }
      c.due("messengers(0)", x.messengers(0), round);
      c.due("messengers(1)", x.messengers(1), round == 0 ? -1 : 0);
      x.errand(0, 1);
    }
    x.errand(-1, 0);
    c.due("messengers(0)", x.messengers(0), 0);
    c.due("messengers(1)", x.messengers(1), -1);
  }

  // ---- 29

  private static void noHit(String why, RansomPieces x) {
    c.due("hit(0) " + why, x.hit(0), -1);
    c.due("hit(1) " + why, x.hit(1), -1);
  }

  private static void hitNone() {
    c.part("29: NONE if by none, it can't be, or another what");
    noHit("without THINGS", new RansomPieces());
    noHit("of HIM alone", Check.open(10));
    RansomPieces x = Check.open(10, 20, 30);
    for (int what : new int[] {-1, 2, 10, MIN, MAX}) {
      c.due("hit(" + what + ")", x.hit(what), -1);
    }
    x.set(5, 0, 2);
    c.due("three WEEKS", x.hit(0), 0);
    c.due("three WEEKS", x.hit(1), 60);
    x.set(5, 0, 1);
    noHit("in two WEEKS", x);
    x.set(5, 0, 30);
    Check.tell(x, 3, "0 after 1;1 after 0;");
    noHit("by AFTER", x);
    x = Check.with(10, 20, 30);
    noHit("without a PASS", x);
    x = Check.open(10, 20, 30);
    x.set(3, 0, 1000);
    x.weeks(2);
    noHit("if the RIVAL has all but HIM", x);
    x = Check.open(10, 20);
    x.pay(0, 0);
    x.weeks(1);
    noHit("if all but HIM are HOME", x);
    x.pay(1, 0);
    noHit("if all are HOME", x);
    x = Check.open(10, 20);
    x.set(5, 0, 0);
    x.weeks(1);
    noHit("behind THAW", x);
  }

  private static void hitOfSeveral() {
    c.part("29: by which LEAST would be most; of several the least");
    RansomPieces x = Check.open(10, 10, 10, 90);
    Check.tell(x, 0, "price worth*2 when rival=1;price worth;");
    c.due("all the same", x.hit(0), 0);
    c.due("LEAST then", x.hit(1), 130);
    x.set(6, 1, 11);
    c.due("one more", x.hit(0), 1);
    c.due("LEAST then", x.hit(1), 132);
    x.set(6, 2, 11);
    c.due("two of them", x.hit(0), 1);
    x.set(6, 2, 12);
    c.due("the last but HIM", x.hit(0), 2);
    c.due("LEAST then", x.hit(1), 10 + 11 + 24 + 90);
    c.due("HIM never", x.set(6, 3, 999), true);
    c.due("HIM never", x.hit(0), 2);
    c.due("nothing of it stays", x.of(2, 2), 0);
    c.due("nothing of it stays", x.least(0), 10 + 11 + 12 + 999);
  }
}
