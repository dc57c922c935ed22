/** The bounds that Terms 2 (PRICE, WEEKS, COME), Terms 3 and promises 9 to 15 name. */
public final class BoundsDeedTest {
  private static final int MIN = Integer.MIN_VALUE;
  private static final int MAX = Integer.MAX_VALUE;
  private static final Check c = new Check();

  public static void main(String[] args) {
    priceHeld();
    priceNone();
    comparing();
    intsWrap();
    partsGoTowardsNought();
    whatPricesAsk();
    wearHeld();
    wearMost();
    eatHeld();
    gainHeld();
    creditMost();
    drawOrNot();
    rivalTakes();
    criesLeast();
    mayCome();
    payBounds();
    payGold();
    payOpen();
    cryBounds();
    criesMost();
    weeksBounds();
    weeksAbove();
    weeksDoneInFull();
    planWaits();
    planLeavesOut();
    planEmptyAndFull();
    ofBounds();
    mudBounds();
    bookBounds();
    bookFull();
    bookFullByRivalAndPaying();
    c.finish();
  }

  // ---- PRICE

  private static void price(String law, int want) {
    RansomPieces x = Check.with(100, 30);
    c.due("its lines", Check.tell(x, 0, law) > 0, true);
    c.due("PRICE by '" + law + "'", x.of(0, 5), want);
  }

  private static void priceHeld() {
    c.part("PRICE held to 1 .. 9999");
    price("price 0;", 1);
    price("price 1;", 1);
    price("price 2;", 2);
    price("price 1-2;", 1);
    price("price 0-9999;", 1);
    price("price 9998;", 9998);
    price("price 9999;", 9999);
    price("price 9999+1;", 9999);
    price("price 9999*9999;", 9999);
    RansomPieces x = Check.open(100, 30);
    Check.tell(x, 0, "price 0-1;");
    c.due("it is paid so", x.pay(0, 0), 1);
    c.due("GOLD", x.look(3), 99998);
    c.due("PAID", x.of(0, 3), 1);
    Check.tell(x, 0, "price 9999+9999;");
    x.weeks(1);
    c.due("it is paid so", x.pay(1, 0), 9999);
    c.due("GOLD", x.look(3), 89999);
    c.due("THE BOOK", x.book(1, 3), 9999);
  }

  private static void priceNone() {
    c.part("PRICE (none: worth), held to 1 .. 9999");
    RansomPieces x = Check.with(0, 1, 999);
    c.due("WORTH 0", x.of(0, 5), 1);
    c.due("WORTH 1", x.of(1, 5), 1);
    c.due("WORTH 999", x.of(2, 5), 999);
    c.sound(x, 0, "price 5 when thing=1;price 6 when 1=2;", 2);
    c.due("no line's B is so", x.of(0, 5), 1);
    c.due("the first line's is", x.of(1, 5), 5);
    c.due("no line's B is so", x.of(2, 5), 999);
  }

  private static void comparing() {
    c.part("C = E (< | = | >) E, or, and, not at their edges");
    int[] less = {5, 6, 6};
    int[] same = {6, 5, 6};
    int[] more = {6, 6, 5};
    for (int i = 0; i < 3; i++) {
      price("price 5 when " + (i + 1) + "<2;price 6;", less[i]);
      price("price 5 when " + (i + 1) + "=2;price 6;", same[i]);
      price("price 5 when " + (i + 1) + ">2;price 6;", more[i]);
    }
    String[] truths = {"1=2", "1=1"};
    for (int i = 0; i < 4; i++) {
      String a = truths[i / 2];
      String b = truths[i % 2];
      price("price 5 when " + a + " and " + b + ";price 6;", i == 3 ? 5 : 6);
      price("price 5 when " + a + " or " + b + ";price 6;", i == 0 ? 6 : 5);
      price("price 5 when not " + a + " and " + b + ";price 6;", i == 1 ? 5 : 6);
      price("price 5 when not (" + a + " or " + b + ");price 6;", i == 0 ? 5 : 6);
      price("price 5 when 1=1 or " + a + " and " + b + ";price 6;", 5);
    }
  }

  private static void intsWrap() {
    c.part("ints, which wrap");
    price("price 9999*9999*21;", 9999);
    price("price 9999*9999*22;", 1);
    price("price 9999*9999*43-9999*417;", 3164);
    price("price 9999*9999*43-9999*417-3163;", 1);
    price("price 9999*9999*43-9999*417-3156;", 8);
    price("price 9999*9999*21+9999*4790+8416;", 9999);
    price("price 9999*9999*21+9999*4790+8417;", 1);
    price("price 0-9999*9999*21-9999*4790-8417;", 1);
    price("price 0-9999*9999*21-9999*4790-8418;", 9999);
    price("price 5 when 9999*9999*22<0;price 6;", 5);
    price("price 5 when 9999*9999*21+9999*4790+8417<0-9999*9999*21;price 6;", 5);
  }

  private static void partsGoTowardsNought() {
    c.part("/ goes towards 0");
    price("price 7/2;", 3);
    price("price 1/2+5;", 5);
    price("price 5 when 9999*9999*23/2*2>9999*9999*23;price 6;", 5);
    price("price 5 when 9999*9999*23/9999/9999/9999=0;price 6;", 5);
    price("price 5 when 9999*9999*23/9999/9999=0-19;price 6;", 5);
    price("price 5 when 10-7/2=7;price 6;", 5);
  }

  private static void whatPricesAsk() {
    c.part("home: how many are HOME; last: 0 without one; rival: 1 if the RIVAL has it, else 0");
    RansomPieces x = Check.open(10, 20, 30);
    Check.tell(x, 0, "price home*1000+last*10+rival+5;");
    c.due("at first", x.of(0, 5), 5);
    x.pay(1, 0);
    c.due("one HOME", x.of(0, 5), 1205);
    x.set(3, 0, 1000);
    x.weeks(1);
    c.due("the RIVAL has it", x.of(0, 5), 1206);
    c.due("he has not HIM", x.of(2, 5), 1205);
    x.pay(0, 0);
    c.due("HOME, no longer the RIVAL's", x.of(0, 5), 2105);
    c.due("two HOME", x.of(2, 5), 2105);
    x.set(6, 0, 0);
    c.due("LAST of WORTH 0", x.of(2, 5), 2005);
    Check.tell(x, 0, "price thing*1000+week*100+cries*10+credit+wears;");
    x.set(2, 0, 3);
    x.set(1, 0, 4);
    x.set(7, 2, 2);
    c.due("the others", x.of(2, 5), 2000 + 100 + 30 + 4 + 2);
  }

  // ---- A WEEK

  private static RansomPieces week(String law, int credit, int wear) {
    RansomPieces x = Check.with(100, 30);
    x.set(1, 0, credit);
    x.set(7, 0, wear);
    Check.tell(x, 1, law);
    x.weeks(1);
    return x;
  }

  private static void wearHeld() {
    c.part("wear held to 0 .. 20 (none: 1)");
    c.due("none", week("", 0, 5).of(0, 1), 6);
    c.due("none whose B is so", week("wear 9 when 1=2;", 0, 5).of(0, 1), 6);
    c.due("others alone", week("eat 9;gain 9;", 0, 5).of(0, 1), 6);
    c.due("-1", week("wear 0-1;", 0, 5).of(0, 1), 5);
    c.due("0", week("wear 0;", 0, 5).of(0, 1), 5);
    c.due("1", week("wear 1;", 0, 5).of(0, 1), 6);
    c.due("20", week("wear 20;", 0, 5).of(0, 1), 25);
    c.due("21", week("wear 21;", 0, 5).of(0, 1), 25);
    c.due("far above", week("wear 9999*9999;", 0, 5).of(0, 1), 25);
    c.due("far below", week("wear 9999*9999*22;", 0, 5).of(0, 1), 5);
  }

  private static void wearMost() {
    c.part("WEAR is wear more (99 at most), of a THING that is not HOME");
    c.due("98 and 1", week("wear 1;", 0, 98).of(0, 1), 99);
    c.due("99 and 1", week("wear 1;", 0, 99).of(0, 1), 99);
    c.due("79 and 20", week("wear 20;", 0, 79).of(0, 1), 99);
    c.due("80 and 20", week("wear 20;", 0, 80).of(0, 1), 99);
    c.due("78 and 20", week("wear 20;", 0, 78).of(0, 1), 98);
    RansomPieces x = Check.open(1, 2, 3);
    x.pay(1, 0);
    x.set(3, 0, 1000);
    x.weeks(2);
    c.due("with the RIVAL", x.of(0, 1), 2);
    c.due("HOME", x.of(1, 1), 0);
    c.due("HIM", x.of(2, 1), 2);
  }

  private static void eatHeld() {
    c.part("eat held to 0 .. 99 (none: 1); CREDIT is eat less (0 at least)");
    c.due("none", week("", 500, 0).look(4), 499);
    c.due("none whose B is so", week("eat 9 when 1=2;", 500, 0).look(4), 499);
    c.due("-1", week("eat 0-1;", 500, 0).look(4), 500);
    c.due("0", week("eat 0;", 500, 0).look(4), 500);
    c.due("99", week("eat 99;", 500, 0).look(4), 401);
    c.due("100", week("eat 100;", 500, 0).look(4), 401);
    c.due("CREDIT 99, eat 99", week("eat 99;", 99, 0).look(4), 0);
    c.due("CREDIT 100, eat 99", week("eat 99;", 100, 0).look(4), 1);
    c.due("CREDIT 98, eat 99", week("eat 99;", 98, 0).look(4), 0);
    c.due("CREDIT 0", week("", 0, 0).look(4), 0);
    c.due("CREDIT 1", week("", 1, 0).look(4), 0);
    c.due("eat: thing, worth, wears, rival 0", week("eat 2+thing+worth+wears+rival;", 500, 50).look(4), 498);
  }

  private static int gained(String law, int credit) {
    RansomPieces x = Check.with(100, 30);
    x.set(7, 0, 50);
    x.set(1, 0, credit);
    x.set(4, 0, 99);
    Check.tell(x, 1, law);
    x.weeks(1);
    return x.look(4);
  }

  private static void gainHeld() {
    c.part("gain held to 0 .. 99 (none: 0)");
    c.due("none", gained("eat 0;", 500), 500);
    c.due("none whose B is so", gained("eat 0;gain 9 when 1=2;", 500), 500);
    c.due("-1", gained("eat 0;gain 0-1;", 500), 500);
    c.due("0", gained("eat 0;gain 0;", 500), 500);
    c.due("1", gained("eat 0;gain 1;", 500), 501);
    c.due("99", gained("eat 0;gain 99;", 500), 599);
    c.due("100", gained("eat 0;gain 100;", 500), 599);
    c.due("gain: thing, worth, wears, rival 0", gained("eat 0;gain 2+thing+worth+wears+rival;", 500), 502);
  }

  private static void creditMost() {
    c.part("CREDIT 9999 at most");
    c.due("9900 and 99", gained("eat 0;gain 99;", 9900), 9999);
    c.due("9901 and 99", gained("eat 0;gain 99;", 9901), 9999);
    c.due("9899 and 99", gained("eat 0;gain 99;", 9899), 9998);
    c.due("9999 and 1", gained("eat 0;gain 1;", 9999), 9999);
    c.due("eat first", gained("eat 99;gain 99;", 9999), 9999);
  }

  private static int stateBehind(int cards, int credit, int eat) {
    RansomPieces x = new RansomPieces();
    Check.tell(x, 1, "gain 5;eat " + eat + ";");
    x.set(1, 0, credit);
    x.set(4, 0, cards);
    x.weeks(1);
    return x.look(8);
  }

  private static void drawOrNot() {
    c.part("no DRAW, if CARDS are 0 or CREDIT is 0");
    int first = 1013904223;
    c.due("CARDS 0", stateBehind(0, 9, 1), 0);
    c.due("CARDS 1", stateBehind(1, 9, 1), first);
    c.due("CREDIT 0", stateBehind(99, 0, 0), 0);
    c.due("CREDIT 1, eat 1", stateBehind(99, 1, 1), 0);
    c.due("CREDIT 1, eat 0", stateBehind(99, 1, 0), first);
    c.due("CREDIT 2, eat 1", stateBehind(99, 2, 1), first);
    c.due("CREDIT 5, eat 6", stateBehind(99, 5, 6), 0);
    c.due("both 0", stateBehind(0, 0, 0), 0);
    c.due("CREDIT 0 stays 0", week("gain 50;", 0, 0).look(4), 0);
  }

  private static void rivalTakes() {
    c.part("the least HELD THING but HIM is with the RIVAL");
    RansomPieces x = Check.open(1, 2, 3, 4);
    x.set(3, 0, 1000);
    x.pay(1, 0);
    c.due("the least", x.weeks(1), 1);
    c.due("0", x.of(0, 2), 2);
    c.due("1 is HOME", x.of(1, 2), 1);
    c.due("the next", x.weeks(1), 1);
    c.due("2", x.of(2, 2), 2);
    c.due("none but HIM", x.weeks(1), 0);
    c.due("HIM", x.of(3, 2), 0);
    c.due("no line then", x.look(7), 3);
    RansomPieces him = Check.with(5);
    him.set(3, 0, 1000);
    c.due("HIM alone", him.weeks(1), 0);
    c.due("HIM", him.of(0, 2), 0);
    c.due("a DRAW all the same", him.look(8), 1013904223);
    RansomPieces none = new RansomPieces();
    none.set(3, 0, 1000);
    c.due("no THING", none.weeks(1), 0);
    c.due("a DRAW all the same", none.look(8), 1013904223);
  }

  private static void criesLeast() {
    c.part("CRIES are one less (0 at least)");
    RansomPieces x = new RansomPieces();
    x.set(2, 0, 2);
    x.weeks(1);
    c.due("2", x.look(5), 1);
    x.weeks(1);
    c.due("1", x.look(5), 0);
    x.weeks(1);
    c.due("0", x.look(5), 0);
    x.set(2, 0, 99);
    x.weeks(1);
    c.due("99", x.look(5), 98);
  }

  // ---- may COME, PAY, CRY

  private static void mayCome() {
    c.part("may COME: not HOME, all that it is AFTER are, HIM but when all others are, none came in this WEEK yet");
    RansomPieces x = Check.open(1, 2, 3, 4);
    Check.tell(x, 3, "2 after 0;2 after 1;");
    int[] atFirst = {1, 1, 0, 0};
    int[] zeroCame = {0, 0, 0, 0};
    int[] zeroHome = {0, 1, 0, 0};
    int[] oneHome = {0, 0, 1, 0};
    int[] himAlone = {0, 0, 0, 1};
    come(x, atFirst);
    x.pay(0, 0);
    come(x, zeroCame);
    x.weeks(1);
    come(x, zeroHome);
    x.pay(1, 0);
    x.weeks(1);
    come(x, oneHome);
    x.pay(2, 0);
    come(x, zeroCame);
    x.weeks(1);
    come(x, himAlone);
    Check.tell(x, 3, "3 after 0 1 2;");
    come(x, himAlone);
    x.pay(3, 0);
    x.weeks(1);
    come(x, zeroCame);
    RansomPieces y = Check.open(1, 2);
    y.pay(0, 0);
    Check.tell(y, 4, "wait 1;pay 1 by 0;");
    c.due("a wait is a WEEK", y.goes(), 2);
    y = Check.open(1, 2);
    Check.tell(y, 2, "");
    come(y, new int[] {1, 0});
    c.due("PASSES and GOLD are not asked", y.set(0, 0, 0), true);
    come(y, new int[] {1, 0});
  }

  private static void come(RansomPieces x, int[] due) {
    for (int i = 0; i < due.length; i++) {
      c.due("of(" + i + ", 6) in WEEK " + x.look(2), x.of(i, 6), due[i]);
    }
  }

  private static RansomPieces ready() {
    RansomPieces x = Check.open(10, 20, 30);
    Check.tell(x, 3, "1 after 0;");
    Check.tell(x, 4, "cry 1;wait 1;");
    x.image(true);
    x.set(3, 0, 500);
    x.cry(3);
    x.weeks(1);
    Check.feed(x, "price 7;");
    return x;
  }

  private static void payBounds() {
    c.part("9: NONE, and nothing is done, if one can't");
    int[][] cant = {{-1, 0}, {3, 0}, {8, 0}, {MIN, 0}, {MAX, 0}, {0, -1}, {0, 1}, {0, 5}, {0, 6}, {0, MIN}, {0, MAX}, {1, 0}, {2, 0}};
    for (int[] one : cant) {
      c.leaves("pay(" + one[0] + ", " + one[1] + ")", BoundsDeedTest::ready, y -> y.pay(one[0], one[1]), -1);
    }
    c.due("pay(0, 0)", ready().pay(0, 0), 10);
    c.leaves("a second in this WEEK", BoundsDeedTest::paid, y -> y.pay(1, 0), -1);
    c.leaves("the same once more", BoundsDeedTest::paid, y -> y.pay(0, 0), -1);
    RansomPieces x = paid();
    x.weeks(1);
    c.due("what is HOME", x.pay(0, 0), -1);
    c.due("the next", x.pay(1, 0), 20);
    c.due("no THING at all", new RansomPieces().pay(0, 0), -1);
  }

  private static RansomPieces paid() {
    RansomPieces x = ready();
    x.pay(0, 0);
    return x;
  }

  private static RansomPieces poor(int gold) {
    RansomPieces x = ready();
    x.set(0, 0, gold);
    return x;
  }

  private static void payGold() {
    c.part("9: with GOLD of its PRICE at least");
    c.leaves("GOLD 9 of 10", () -> poor(9), y -> y.pay(0, 0), -1);
    c.leaves("GOLD 0", () -> poor(0), y -> y.pay(0, 0), -1);
    RansomPieces x = poor(10);
    c.due("GOLD 10 of 10", x.pay(0, 0), 10);
    c.due("GOLD", x.look(3), 0);
    x = poor(11);
    c.due("GOLD 11 of 10", x.pay(0, 0), 10);
    c.due("GOLD", x.look(3), 1);
    c.due("PAID", x.of(0, 3), 10);
    c.due("HOW", x.of(0, 2), 1);
    c.due("PASS", x.of(0, 4), 0);
    c.due("LAST", x.look(6), 0);
    c.due("HOME", x.look(1), 1);
  }

  private static int paidIn(int week) {
    RansomPieces x = Check.with(10, 20);
    x.set(0, 0, 99);
    Check.tell(x, 2, "pass 2 from 3 to 5 mud 0;pass 3 from 0 to 60 mud 0;pass 2 from 8 to 8 mud 1;");
    if (week > 0) {
      x.weeks(week);
    }
    return x.pay(0, 2);
  }

  private static void payOpen() {
    c.part("9: by a PASS that is open in this WEEK");
    int[] open = {-1, -1, -1, 10, 10, 10, -1, -1, 10, -1};
    for (int week = 0; week < open.length; week++) {
      c.due("in WEEK " + week, paidIn(week), open[week]);
    }
  }

  private static void cryBounds() {
    c.part("10: n 1 .. 20; NONE if one can't");
    for (int n : new int[] {0, 21, -1, 99, MIN, MAX}) {
      c.leaves("cry(" + n + ")", BoundsDeedTest::ready, y -> y.cry(n), -1);
    }
    RansomPieces x = new RansomPieces();
    c.due("cry(1)", x.cry(1), 1);
    c.due("cry(20)", x.cry(20), 21);
    c.due("lines", x.look(7), 2);
    c.due("n", x.book(0, 2), 1);
    c.due("n", x.book(1, 2), 20);
  }

  private static void criesMost() {
    c.part("10: CRIES n more (99 at most)");
    int[][] due = {{97, 1, 98}, {98, 1, 99}, {98, 2, 99}, {99, 1, 99}, {79, 20, 99}, {80, 20, 99}, {78, 20, 98}, {99, 20, 99}};
    for (int[] one : due) {
      RansomPieces x = new RansomPieces();
      x.set(2, 0, one[0]);
      c.due("cry(" + one[1] + ") at " + one[0], x.cry(one[1]), one[2]);
      c.due("CRIES", x.look(5), one[2]);
      c.due("THE BOOK has n", x.book(0, 2), one[1]);
      c.due("it can be undone", x.look(17), 1);
    }
  }

  // ---- weeks, goes

  private static void weeksBounds() {
    c.part("11: 1 .. 20; NONE, and nothing is done, if one can't be");
    for (int n : new int[] {0, 21, -1, 60, MIN, MAX}) {
      c.leaves("weeks(" + n + ")", BoundsDeedTest::ready, y -> y.weeks(n), -1);
    }
    RansomPieces x = new RansomPieces();
    c.due("weeks(1)", x.weeks(1), 0);
    c.due("WEEK", x.look(2), 1);
    c.due("weeks(20)", x.weeks(20), 0);
    c.due("WEEK", x.look(2), 21);
  }

  private static RansomPieces late(int week) {
    RansomPieces x = Check.open(10, 20, 30);
    x.set(1, 0, 99);
    x.set(4, 0, 50);
    x.weeks(20);
    x.weeks(20);
    if (week > 40) {
      x.weeks(week - 40);
    }
    x.set(2, 0, 5);
    x.set(3, 0, 999);
    x.state(3);
    return x;
  }

  private static void weeksAbove() {
    c.part("11: NONE, and nothing is done, if WEEK would be above 60");
    RansomPieces x = late(40);
    c.due("40 and 20", x.weeks(20), 2);
    c.due("WEEK", x.look(2), 60);
    c.leaves("41 and 20", () -> late(41), y -> y.weeks(20), -1);
    x = late(59);
    c.due("59 and 1", x.weeks(1), 1);
    c.due("WEEK", x.look(2), 60);
    c.leaves("59 and 2", () -> late(59), y -> y.weeks(2), -1);
    c.leaves("60 and 1", () -> late(60), y -> y.weeks(1), -1);
    c.leaves("60 and 20", () -> late(60), y -> y.weeks(20), -1);
    c.leaves("60 and MAX", () -> late(60), y -> y.weeks(MAX), -1);
  }

  private static void weeksDoneInFull() {
    c.part("11: how many THINGS the RIVAL took");
    RansomPieces x = Check.with(1, 2, 3, 4, 5, 6, 7, 8);
    x.set(3, 0, 1000);
    c.due("one a WEEK", x.weeks(3), 3);
    c.due("all but HIM", x.weeks(20), 4);
    c.due("none is left", x.weeks(20), 0);
    x = Check.with(1, 2, 3);
    c.due("RIVAL 0", x.weeks(20), 0);
  }

  private static RansomPieces planned(int week, String plan) {
    RansomPieces x = late(week);
    Check.tell(x, 4, plan);
    return x;
  }

  private static void planWaits() {
    c.part("12: wait: so many WEEKS (60 at most: then no more); a wait that was at least one WEEK is one");
    RansomPieces x = planned(40, "wait 20;");
    c.due("40 and 20", x.goes(), 1);
    c.due("WEEK", x.look(2), 60);
    x = planned(41, "wait 20;");
    c.due("41 and 20", x.goes(), 1);
    c.due("WEEK", x.look(2), 60);
    x = planned(59, "wait 20;");
    c.due("59 and 20", x.goes(), 1);
    c.due("WEEK", x.look(2), 60);
    c.due("one WEEK's CRIES", x.look(5), 4);
    c.due("one WEEK's WEAR", x.of(2, 1), 60);
    x = planned(60, "wait 20;wait 1;");
    c.due("60 and 20", x.goes(), 0);
    c.due("WEEK", x.look(2), 60);
    c.due("no WEEK's CRIES", x.look(5), 5);
    c.due("no DRAW", x.look(8), 3);
    x = planned(58, "again 3(wait 1;cry 1;)");
    c.due("two waits and three cries", x.goes(), 5);
    c.due("WEEK", x.look(2), 60);
    x = planned(40, "wait 1;");
    c.due("wait 1", x.goes(), 1);
    c.due("WEEK", x.look(2), 41);
  }

  private static void planLeavesOut() {
    c.part("12: pay, cry: if it can be, else it is left out");
    RansomPieces x = Check.open(10, 20, 30);
    x.set(0, 0, 30);
    Check.tell(x, 4, "pay 2 by 0;pay 1 by 1;pay 1 by 0;pay 0 by 0;cry 20;wait 1;pay 1 by 0;pay 0 by 0;wait 1;pay 2 by 0;");
    c.due("goes", x.goes(), 5);
    c.due("HOME", x.look(1), 3);
    c.due("GOLD", x.look(3), 0);
    c.due("WEEK", x.look(2), 2);
    c.due("lines", x.look(7), 3);
    c.due("what", x.book(0, 2), 1);
    c.due("what", x.book(1, 2), 20);
    c.due("what", x.book(2, 2), 0);
    c.due("WEEK", x.book(2, 0), 1);
    c.due("nothing can be", x.set(0, 0, 0), true);
    Check.tell(x, 4, "pay 2 by 0;pay 0 by 0;");
    c.due("all left out", x.goes(), 0);
    c.due("lines", x.look(7), 3);
  }

  private static void planEmptyAndFull() {
    c.part("12: A PLAN that is empty, and one of 60 deeds");
    RansomPieces x = Check.open(10, 20);
    c.due("empty", x.goes(), 0);
    c.due("A PLAN done", x.look(17), 1);
    Check.tell(x, 4, "again 6(again 5(cry 1;wait 1;))");
    c.due("60 deeds", x.goes(), 60);
    c.due("WEEK", x.look(2), 30);
    c.due("lines", x.look(7), 30);
    c.due("again", x.goes(), 60);
    c.due("WEEK", x.look(2), 60);
    c.due("and again: the cries alone", x.goes(), 30);
    c.due("CRIES", x.look(5), 30);
    c.due("lines", x.look(7), 90);
  }

  // ---- of, mud, book

  private static void ofBounds() {
    c.part("13: NONE - 1 if there is none such, or another what");
    c.due("no THING at all", new RansomPieces().of(0, 0), -2);
    RansomPieces x = Check.with(10, 20, 30, 40, 50, 60, 70, 80);
    for (int what = 0; what < 8; what++) {
      c.due("of(0, " + what + ")", x.of(0, what) != -2, true);
      c.due("of(7, " + what + ")", x.of(7, what) != -2, true);
      for (int thing : new int[] {-1, 8, MIN, MAX}) {
        c.due("of(" + thing + ", " + what + ")", x.of(thing, what), -2);
      }
    }
    for (int what : new int[] {-1, 8, MIN, MAX}) {
      c.due("of(0, " + what + ")", x.of(0, what), -2);
      c.due("of(7, " + what + ")", x.of(7, what), -2);
    }
    c.due("the PASS (NONE)", x.of(0, 4), -1);
    c.due("of(7, 0)", x.of(7, 0), 80);
  }

  private static void mudBounds() {
    c.part("14: NONE if it is not open then, or one can't be");
    RansomPieces x = new RansomPieces();
    c.due("no line", x.mud(0, 0), -1);
    Check.tell(x, 2, "pass 0 from 0 to 60 mud 0;pass 5 from 0 to 60 mud 5;pass 3 from 10 to 20 mud 3;"
        + "pass 3 from 20 to 22 mud 4;pass 3 from 24 to 24 mud 1;");
    int[][] due = {
      {0, 0, 0}, {0, 60, 0}, {5, 0, 5}, {5, 60, 5}, {0, -1, -1}, {0, 61, -1}, {5, -1, -1}, {5, 61, -1}, {-1, 0, -1}, {6, 0, -1},
      {0, MIN, -1}, {0, MAX, -1}, {MIN, 0, -1}, {MAX, 0, -1}, {3, 9, -1}, {3, 10, 3}, {3, 20, 3}, {3, 21, 4}, {3, 22, 4},
      {3, 23, -1}, {3, 24, 1}, {3, 25, -1}, {4, 15, -1}
    };
    for (int[] one : due) {
      c.due("mud(" + one[0] + ", " + one[1] + ")", x.mud(one[0], one[1]), one[2]);
    }
  }

  private static void bookBounds() {
    c.part("15: NONE - 1 if there is none such, or another what");
    RansomPieces x = Check.open(10, 20);
    c.due("empty", x.book(0, 0), -2);
    x.cry(4);
    x.pay(0, 0);
    int[][] due = {{0, 1, 4, 0, -1}, {0, 0, 0, 10, 0}};
    for (int i = 0; i < 2; i++) {
      for (int what = 0; what < 5; what++) {
        c.due("book(" + i + ", " + what + ")", x.book(i, what), due[i][what]);
      }
      for (int what : new int[] {-1, 5, MIN, MAX}) {
        c.due("book(" + i + ", " + what + ")", x.book(i, what), -2);
      }
    }
    for (int i : new int[] {-1, 2, 119, 120, MIN, MAX}) {
      c.due("book(" + i + ", 0)", x.book(i, 0), -2);
    }
  }

  /** An object whose BOOK has this many lines (60 at least), all of them cries. */
  private static RansomPieces written(int lines) {
    RansomPieces x = Check.open(10, 20, 30);
    Check.tell(x, 4, Check.times("cry 1;", 60));
    x.goes();
    for (int i = 60; i < lines; i++) {
      x.cry(1 + i % 20);
    }
    return x;
  }

  private static void bookFull() {
    c.part("THE BOOK (120 lines; no more then)");
    RansomPieces x = written(119);
    c.due("lines", x.look(7), 119);
    c.due("no line 119", x.book(119, 0), -2);
    x.cry(17);
    c.due("lines", x.look(7), 120);
    c.due("line 119", x.book(119, 2), 17);
    c.due("line 119", x.book(119, 0), 0);
    c.due("no line 120", x.book(120, 0), -2);
    c.due("one more is done", x.cry(18), 99);
    c.due("lines", x.look(7), 120);
    c.due("line 119 as it was", x.book(119, 2), 17);
    c.due("line 0 as it was", x.book(0, 2), 1);
    c.due("no line 120", x.book(120, 0), -2);
    x.undo();
    c.due("lines", x.look(7), 120);
    x.undo();
    c.due("lines", x.look(7), 119);
    c.due("no line 119", x.book(119, 0), -2);
    x.cry(19);
    c.due("line 119 anew", x.book(119, 2), 19);
  }

  private static void bookFullByRivalAndPaying() {
    c.part("THE BOOK is full: paid and taken all the same");
    RansomPieces x = written(120);
    c.due("paid", x.pay(1, 0), 20);
    c.due("HOME", x.look(1), 2);
    x.set(3, 0, 1000);
    c.due("taken", x.weeks(1), 1);
    c.due("with the RIVAL", x.of(0, 2), 2);
    c.due("lines", x.look(7), 120);
    c.due("the last is a cry", x.book(119, 1), 1);
    x = written(119);
    c.due("paid", x.pay(1, 0), 20);
    c.due("the last is paid", x.book(119, 1), 0);
    c.due("its PRICE", x.book(119, 3), 20);
    c.due("its PASS", x.book(119, 4), 0);
    x = written(119);
    x.set(3, 0, 1000);
    c.due("both taken", x.weeks(2), 2);
    c.due("the last is the RIVAL's first", x.book(119, 1), 2);
    c.due("the last is the RIVAL's first", x.book(119, 2), 0);
    c.due("lines", x.look(7), 120);
    c.due("its PRICE", x.book(119, 3), 0);
    c.due("its PASS", x.book(119, 4), -1);
    c.due("both", x.of(1, 2), 2);
  }
}
