/** Promises 16 to 29: what is answered in thought, by hand-made cases and edges. */
public final class ThoughtTest {
  private static final Check c = new Check();

  public static void main(String[] args) {
    least();
    leastByLaw();
    orders();
    fits();
    kept();
    letters();
    sights();
    lasts();
    cards();
    share();
    messengers();
    hit();
    c.finish();
  }

  private static void way(RansomPieces x, int... things) {
    for (int i = 0; i < things.length; i++) {
      c.due("least(" + (10 + i) + ")", x.least(10 + i), things[i]);
    }
  }

  private static void least() {
    c.part("16 least");
    RansomPieces x = Check.with(10, 20, 30);
    c.due("no PASS", x.least(0), -1);
    c.due("no PASS", x.least(1), -1);
    c.due("no PASS", x.least(10), -1);
    Check.tell(x, 2, "pass 0 from 2 to 2 mud 0;pass 1 from 4 to 5 mud 0;");
    c.due("three WEEKS", x.least(0), 60);
    c.due("waiting is free ahead of it", x.least(1), 0);
    way(x, -1, -1, 0, -1, 1, 2, -1);
    x.set(5, 0, 4);
    c.due("THAW too early", x.least(0), -1);
    x.set(5, 0, 5);
    c.due("THAW in time", x.least(0), 60);
    c.due("behind THAW", x.least(16), -1);
    c.due("far behind THAW", x.least(Integer.MAX_VALUE), -1);
    c.due("another what", x.least(2), -1);
    c.due("another what", x.least(9), -1);
    c.due("another what", x.least(-1), -1);
    x.weeks(2);
    c.due("then", x.least(0), 60);
    c.due("it can't wait", x.least(1), -1);
    way(x, 0, -1, 1, 2);
    x.set(0, 0, 10);
    x.pay(1, 0);
    c.due("GOLD was not enough", x.look(1), 0);
    x.set(0, 0, 20);
    x.pay(1, 0);
    c.due("one came in this WEEK", x.least(0), 40);
    c.due("nothing is paid in it anyway", x.least(1), 0);
    way(x, -1, -1, 0, 2);
    x.set(5, 0, 1);
    c.due("WEEK behind THAW", x.least(0), -1);
    x = Check.open(5);
    x.pay(0, 0);
    c.due("all HOME", x.least(0), 0);
    c.due("all HOME", x.least(1), 0);
    c.due("all HOME", x.least(10), -1);
    x.set(5, 0, 0);
    c.due("all HOME at THAW", x.least(1), 0);
    x.weeks(1);
    c.due("all HOME behind THAW", x.least(0), -1);
    c.due("all HOME behind THAW", x.least(1), -1);
    x = Check.open(5, 6);
    Check.tell(x, 3, "0 after 1;");
    c.due("never by AFTER", x.least(0), -1);
  }

  private static void leastByLaw() {
    c.part("16 least by a law");
    RansomPieces x = Check.open(100, 50, 10);
    Check.tell(x, 0, "price worth+last;");
    c.due("last", x.least(0), 10 + 100 + 50 + 50 + 100);
    way(x, 0, 1, 2, -1);
    Check.tell(x, 0, "price 500-week*100 when thing=0;price worth;");
    x.set(5, 0, 4);
    c.due("week", x.least(0), 200 + 50 + 10);
    way(x, 1, -1, -1, 0, 2);
    c.due("waiting", x.least(1), 0);
    Check.tell(x, 0, "price worth when home=0;price worth*2 when home=1;price worth*3;");
    c.due("home", x.least(0), 100 + 100 + 30);
    way(x, 0, 1, 2);
    Check.tell(x, 0, "price week*10+1;");
    c.due("dearer each WEEK", x.least(0), 1 + 11 + 21);
    c.due("what a WEEK costs", x.least(1), 30);
    way(x, 0, 1, 2, -1, -1);
    Check.tell(x, 0, "price 50-week*10;");
    c.due("cheaper each WEEK", x.least(0), 30 + 20 + 10);
    way(x, -1, -1, 0, 1, 2);
    Check.tell(x, 0, "price wears+cries+credit+rival;");
    x.set(7, 0, 9);
    x.set(2, 0, 20);
    x.set(1, 0, 30);
    c.due("as they are now", x.least(0), 9 + 150);
    c.due("the laws may be told without a deed", x.look(17), 0);
    x.weeks(1);
    c.due("a WEEK on", x.least(0), 10 + 1 + 1 + 3 * (19 + 29));
    x = Check.open(7, 8, 9);
    Check.tell(x, 0, "price 900-week*10;");
    x.set(5, 0, 12);
    x.weeks(5);
    way(x, -1, -1, -1, -1, -1, 0, 1, 2, -1);
    x.set(5, 0, 8);
    way(x, -1, 0, 1, 2, -1, -1, -1, -1, -1);
    x.set(5, 0, 60);
    c.due("at THAW 60", x.least(10 + 55), 2);
    c.due("at THAW 60", x.least(10 + 54), 1);
    x = Check.open(7, 8, 9);
    Check.tell(x, 0, "price last+1;");
    x.pay(1, 0);
    c.due("LAST as it is", x.least(0), 9 + 8);
    x = Check.open(1, 1, 1, 1, 1, 1, 1, 1);
    x.set(5, 0, 60);
    c.due("eight", x.least(0), 8);
    way(x, 0, 1, 2, 3, 4, 5, 6, 7, -1);
    Check.tell(x, 3, "0 after 6;1 after 0;");
    way(x, 2, 3, 4, 5, 6, 0, 1, 7, -1);
  }

  private static void orders() {
    c.part("17 orders");
    RansomPieces x = Check.open(1, 1, 1, 1, 1, 1, 1, 1);
    c.due("eight", x.orders(0), 5040);
    for (int i = 0; i < 8; i++) {
      c.due("orders(" + (10 + i) + ")", x.orders(10 + i), i);
    }
    c.due("orders(18)", x.orders(18), -1);
    c.due("orders(MAX)", x.orders(Integer.MAX_VALUE), -1);
    c.due("orders(9)", x.orders(9), -1);
    c.due("orders(-1)", x.orders(-1), -1);
    Check.tell(x, 3, "0 after 1;2 after 3 4;");
    c.due("half and a third", x.orders(0), 5040 / 2 / 3);
    int[] first = {1, 0, 3, 4, 2, 5, 6, 7};
    for (int i = 0; i < 8; i++) {
      c.due("orders(" + (10 + i) + ")", x.orders(10 + i), first[i]);
    }
    x.pay(1, 0);
    c.due("one HOME", x.orders(0), 720 / 3);
    c.due("the first of those left", x.orders(10), 0);
    c.due("as many as are left", x.orders(17), -1);
    Check.tell(x, 3, "0 after 2;2 after 0;");
    c.due("round about", x.orders(0), 0);
    c.due("round about", x.orders(10), -1);
    Check.tell(x, 3, "0 after 7;");
    c.due("after HIM", x.orders(0), 0);
    c.due("one order", Check.with(5).orders(10), 0);
    c.due("nothing", new RansomPieces().orders(0), 1);
    c.due("nothing", new RansomPieces().orders(10), -1);
  }

  private static void fits() {
    c.part("18 fits");
    RansomPieces x = Check.with(1, 2, 3, 4);
    x.set(0, 0, 9);
    Check.tell(x, 2, "pass 0 from 3 to 5 mud 2;pass 0 from 0 to 9 mud 4;pass 5 from 60 to 60 mud 5;");
    x.set(7, 1, 5);
    x.set(7, 2, 8);
    x.set(7, 3, 9);
    c.due("all", x.fits(0, 99, 3, 2), 15);
    c.due("from .. to", x.fits(5, 8, 3, 2), 6);
    c.due("one", x.fits(8, 8, 3, 2), 4);
    c.due("turned", x.fits(8, 5, 3, 2), 0);
    c.due("wide", x.fits(-5, 1000, 3, 2), 15);
    c.due("the first line's MUD alone", x.fits(0, 99, 3, 4), 0);
    c.due("another WEEK's", x.fits(0, 99, 2, 4), 15);
    c.due("WEEK 0", x.fits(0, 99, 0, 4), 15);
    c.due("MUD 0", x.fits(0, 99, 3, 0), 0);
    c.due("not open", x.fits(0, 99, 10, 4), 0);
    c.due("60, 5", x.fits(0, 99, 60, 5), 15);
    c.due("WEEK 61", x.fits(0, 99, 61, 4), -1);
    c.due("WEEK -1", x.fits(0, 99, -1, 4), -1);
    c.due("MUD 6", x.fits(0, 99, 3, 6), -1);
    c.due("MUD -1", x.fits(0, 99, 3, -1), -1);
    x.pay(1, 0);
    c.due("not what is HOME", x.fits(0, 99, 3, 2), 13);
  }

  private static void kept() {
    c.part("19 kept");
    RansomPieces x = Check.open(1, 2, 3);
    c.due("no CAVE", x.kept(), 0);
    Check.tell(x, 2, "pass 0 from 0 to 9 mud 0;pass 1 from 0 to 9 mud 0;cave 7 by 0;cave 2 by 1;cave 2 by 0;cave 4 by 5;");
    c.due("all that have a line", x.kept(), 128 + 4 + 16);
    x.pay(0, 0);
    c.due("by PASS 0", x.kept(), 128 + 4);
    x.weeks(1);
    x.pay(1, 1);
    c.due("by both", x.kept(), 4);
    Check.tell(x, 2, "cave 1 by 1;cave 2 by 0;");
    c.due("by none", x.kept(), 0);
  }

  private static void letters() {
    c.part("20 letter, 21 letters");
    RansomPieces x = Check.with(1, 2, 3);
    c.due("none", x.letters(0), 1);
    c.due("none", x.letters(10), -1);
    c.due("letter(8)", x.letter(8), -1);
    RansomPieces one = Check.with(1, 2, 3);
    one.letter(2);
    one.letter(5);
    c.due("a first one that doesn't fit", one.letters(0), 0);
    c.due("letter(-1)", x.letter(-1), -1);
    c.due("letter(1)", x.letter(1), 0);
    c.due("letter(7)", x.letter(7), 1);
    c.due("letter(3)", x.letter(3), 2);
    c.due("letter(3)", x.letter(3), 3);
    c.due("letter(0)", x.letter(0), 4);
    c.due("letter(3)", x.letter(3), 5);
    c.due("letters(0)", x.letters(0), 6);
    int[] first = {1, 2, 3, 5, 0, 4, -1};
    for (int i = 0; i < first.length; i++) {
      c.due("letters(" + (10 + i) + ")", x.letters(10 + i), first[i]);
    }
    c.due("letters(9)", x.letters(9), -1);
    c.due("letters(1)", x.letters(1), -1);
    c.due("letters(-1)", x.letters(-1), -1);
    c.due("letters(MAX)", x.letters(Integer.MAX_VALUE), -1);
    c.due("letter(0)", x.letter(0), 6);
    c.due("letters(0)", x.letters(0), 12);
    c.due("letter(2)", x.letter(2), 7);
    c.due("neither within the other", x.letters(0), 0);
    c.due("neither within the other", x.letters(10), -1);
    c.due("a ninth", x.letter(0), -1);
    c.due("look(14)", x.look(14), 8);
    x = new RansomPieces();
    for (int i = 0; i < 8; i++) {
      x.letter(0);
    }
    c.due("all the same", x.letters(0), 40320);
  }

  private static void sights() {
    c.part("22 sight, 23 wrong");
    RansomPieces x = Check.with(1, 2, 3);
    c.due("no such THING", x.sight(3, 0, 0), -1);
    c.due("no such THING", x.sight(-2, 0, 0), -1);
    c.due("WEEK 61", x.sight(0, 61, 0), -1);
    c.due("WEEK -1", x.sight(0, -1, 0), -1);
    c.due("WEAR 100", x.sight(0, 0, 100), -1);
    c.due("WEAR -1", x.sight(0, 0, -1), -1);
    c.due("in a WEEK to come", x.sight(0, 60, 99), 1);
    c.due("wrong()", x.wrong(), 0);
    c.due("the same ahead", x.sight(0, 59, 99), 2);
    c.due("wrong()", x.wrong(), 0);
    c.due("the same again", x.sight(0, 59, 99), 3);
    c.due("wrong()", x.wrong(), 0);
    c.due("two in one", x.sight(1, 30, 4), 4);
    c.due("two in one", x.sight(1, 30, 5), 5);
    c.due("wrong()", x.wrong(), 2);
    c.due("more ahead, told later", x.sight(2, 50, 4), 6);
    c.due("more ahead, told later", x.sight(2, 49, 5), 7);
    c.due("wrong()", x.wrong(), 6);
    c.due("none", x.sight(-1, 77, -5), 0);
    c.due("wrong()", x.wrong(), 0);
    x.set(7, 0, 5);
    x.weeks(1);
    c.due("more than now, the first", x.sight(0, 1, 7), 1);
    c.due("wrong()", x.wrong(), 1);
    x.sight(-1, 0, 0);
    x.sight(2, 40, 5);
    x.sight(2, 41, 4);
    c.due("the first two", x.wrong(), 4);
    x.sight(-1, 0, 0);
    c.due("as now", x.sight(0, 1, 6), 1);
    c.due("wrong()", x.wrong(), 0);
    c.due("more than now", x.sight(1, 1, 2), 2);
    c.due("wrong()", x.wrong(), 2);
    c.due("more than now, behind", x.sight(2, 0, 2), 3);
    c.due("wrong()", x.wrong(), 6);
    x.weeks(1);
    c.due("no longer more than now", x.wrong(), 0);
    for (int i = 4; i <= 12; i++) {
      c.due("sight", x.sight(0, 5, 9), i);
    }
    c.due("a thirteenth", x.sight(0, 5, 9), -1);
    c.due("look(15)", x.look(15), 12);
  }

  private static void lasts() {
    c.part("24 lasts");
    RansomPieces x = new RansomPieces();
    c.due("none", x.lasts(), 0);
    x.set(1, 0, 1);
    c.due("one", x.lasts(), 1);
    x.set(1, 0, 60);
    c.due("sixty", x.lasts(), 60);
    x.set(1, 0, 61);
    c.due("longer", x.lasts(), -1);
    Check.tell(x, 1, "eat 0;");
    c.due("ever", x.lasts(), -1);
    Check.tell(x, 1, "eat week;gain 99;");
    x.set(4, 0, 99);
    x.set(1, 0, 10);
    c.due("0 1 2 3 4", x.lasts(), 5);
    x.weeks(1);
    c.due("no DRAW in thought", x.look(8) == 1013904223 ? 1 : 0, 1);
    x.lasts();
    c.due("nothing of it stays", x.look(8), 1013904223);
    Check.tell(x, 1, "eat cries;");
    x.set(2, 0, 4);
    x.set(1, 0, 10);
    c.due("4 3 2 1 by CRIES that go", x.lasts(), 4);
    x.set(1, 0, 11);
    c.due("CRIES end first", x.lasts(), -1);
    Check.tell(x, 1, "eat credit/2+1;");
    c.due("by CREDIT as it goes: 6 3 2", x.lasts(), 3);
    RansomPieces y = Check.with(10, 20);
    y.set(3, 0, 1000);
    y.set(1, 0, 20);
    y.weeks(1);
    Check.tell(y, 1, "eat 1+thing+worth+wears+rival*5;");
    y.of(0, 5);
    c.due("without a THING", y.lasts(), 19);
    Check.tell(x, 1, "eat 9999;");
    x.set(1, 0, 200);
    c.due("held to 99", x.lasts(), 3);
  }

  private static void cards() {
    c.part("25 cards");
    RansomPieces x = new RansomPieces();
    for (int g = 2; g <= 12; g++) {
      for (int p = 1; p <= 9; p++) {
        x = new RansomPieces();
        for (int i = 1; i < g; i++) {
          double won = x.cards(i, g, p, 0);
          double by = x.cards(i, g, p, 1);
          double less = i == 1 ? 0 : (double) x.cards(i - 1, g, p, 0) / x.cards(i - 1, g, p, 1);
          double more = i == g - 1 ? 1 : (double) x.cards(i + 1, g, p, 0) / x.cards(i + 1, g, p, 1);
          boolean even = Math.abs(won / by - (p * more + (10 - p) * less) / 10) < 1e-12;
          c.due("cards(" + i + ", " + g + ", " + p + ") is even", even, true);
          c.due("in lowest terms", java.math.BigInteger.valueOf((long) won)
              .gcd(java.math.BigInteger.valueOf((long) by)).longValue(), 1);
        }
      }
    }
    c.due("cards(2, 4, 5, 0)", x.cards(2, 4, 5, 0), 1);
    c.due("cards(2, 4, 5, 1)", x.cards(2, 4, 5, 1), 2);
    c.due("cards(1, 12, 1, 0)", x.cards(1, 12, 1, 0), 1);
    c.due("cards(1, 12, 1, 1)", x.cards(1, 12, 1, 1), 35303692060L);
    c.due("g 1", x.cards(1, 1, 5, 0), -1);
    c.due("g 13", x.cards(1, 13, 5, 0), -1);
    c.due("c 0", x.cards(0, 5, 5, 0), -1);
    c.due("c g", x.cards(5, 5, 5, 0), -1);
    c.due("p 0", x.cards(1, 5, 0, 0), -1);
    c.due("p 10", x.cards(1, 5, 10, 1), -1);
    c.due("another what", x.cards(1, 5, 5, 2), -1);
    c.due("another what", x.cards(1, 5, 5, -1), -1);
  }

  private static void share() {
    c.part("26 share");
    RansomPieces x = new RansomPieces();
    c.due("c's", x.share(99999, 99, 98, 0), 99999 * 99 / 197);
    c.due("d's", x.share(99999, 99, 98, 1), 99999 * 98 / 197);
    c.due("left", x.share(99999, 99, 98, 2), 99999 - 99999 * 99 / 197 - 99999 * 98 / 197);
    c.due("1 to 1", x.share(11, 1, 1, 0), 5);
    c.due("1 to 1", x.share(11, 1, 1, 2), 1);
    c.due("99 to 99", x.share(99999, 99, 99, 1), 49999);
    c.due("even", x.share(10, 3, 2, 0), 6);
    c.due("even", x.share(10, 3, 2, 1), 4);
    c.due("even", x.share(10, 3, 2, 2), 0);
    c.due("nothing", x.share(0, 3, 2, 0), 0);
    c.due("sum -1", x.share(-1, 3, 2, 0), -1);
    c.due("sum 100000", x.share(100000, 3, 2, 0), -1);
    c.due("c 0", x.share(10, 0, 2, 0), -1);
    c.due("c 100", x.share(10, 100, 2, 0), -1);
    c.due("d 0", x.share(10, 3, 0, 0), -1);
    c.due("d 100", x.share(10, 3, 100, 0), -1);
    c.due("another what", x.share(10, 3, 2, 3), -1);
    c.due("another what", x.share(10, 3, 2, -1), -1);
  }

  private static void messengers() {
    c.part("27 errand, 28 messengers");
    RansomPieces x = new RansomPieces();
    c.due("none", x.messengers(0), 0);
    c.due("none", x.messengers(1), -1);
    c.due("errand(61, 1)", x.errand(61, 1), -1);
    c.due("errand(-2, 1)", x.errand(-2, 1), -1);
    c.due("errand(5, 0)", x.errand(5, 0), -1);
    c.due("errand(5, 21)", x.errand(5, 21), -1);
    c.due("errand(60, 20)", x.errand(60, 20), 1);
    c.due("one", x.messengers(0), 1);
    c.due("its WEEK", x.messengers(1), 60);
    c.due("errand(5, 3)", x.errand(5, 3), 2);
    c.due("errand(8, 1)", x.errand(8, 1), 3);
    c.due("free in the next WEEK", x.messengers(0), 1);
    c.due("the first WEEK", x.messengers(1), 5);
    c.due("errand(0, 8)", x.errand(0, 8), 4);
    c.due("two", x.messengers(0), 2);
    c.due("from", x.messengers(1), 5);
    c.due("errand(7, 2)", x.errand(7, 2), 5);
    c.due("three", x.messengers(0), 3);
    c.due("in", x.messengers(1), 7);
    c.due("another what", x.messengers(2), -1);
    c.due("another what", x.messengers(-1), -1);
    for (int i = 6; i <= 12; i++) {
      c.due("errand", x.errand(0, 1), i);
    }
    c.due("a thirteenth", x.errand(0, 1), -1);
    c.due("eight", x.messengers(0), 8);
    c.due("errand(-1, 99)", x.errand(-1, 99), 0);
    c.due("none", x.messengers(0), 0);
    c.due("look(16)", x.look(16), 0);
  }

  private static void hit() {
    c.part("29 hit");
    RansomPieces x = Check.open(10, 40, 30, 90);
    c.due("without a law the least", x.hit(0), 0);
    c.due("without a law", x.hit(1), 170);
    Check.tell(x, 0, "price worth*3 when rival=1;price worth;");
    c.due("hit(0)", x.hit(0), 1);
    c.due("hit(1)", x.hit(1), 250);
    c.due("hit(2)", x.hit(2), -1);
    c.due("hit(-1)", x.hit(-1), -1);
    c.due("least as it is", x.least(0), 170);
    Check.tell(x, 0, "price worth-5 when rival=1;price worth;");
    c.due("cheaper by it: the least of several", x.hit(0), 0);
    c.due("cheaper by it", x.hit(1), 165);
    Check.tell(x, 0, "price worth*3 when rival=1;price worth;");
    x.set(3, 0, 1000);
    x.weeks(1);
    x.pay(1, 0);
    c.due("but what is held", x.hit(0), 2);
    c.due("but what is held", x.hit(1), 30 + 90 + 90);
    x.weeks(1);
    c.due("by none", x.hit(0), -1);
    c.due("by none", x.hit(1), -1);
    x = Check.open(10, 20, 30);
    x.set(5, 0, 1);
    c.due("it can't be", x.hit(0), -1);
    c.due("it can't be", x.hit(1), -1);
    x = Check.open(10);
    c.due("HIM alone", x.hit(0), -1);
  }
}
