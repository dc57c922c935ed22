/** Promises 1 to 4 and 9 to 15: what is told, paid, cried, waited for, and the book of it. */
public final class DeedsTest {
  private static final Check c = new Check();

  public static void main(String[] args) {
    newObject();
    state();
    thing();
    set();
    pay();
    come();
    cry();
    weeks();
    draws();
    rival();
    goes();
    of();
    mud();
    book();
    c.finish();
  }

  private static void newObject() {
    c.part("1 a new object");
    RansomPieces x = new RansomPieces();
    for (int i = 0; i <= 17; i++) {
      c.due("look(" + i + ")", x.look(i), i == 6 ? -1 : 0);
    }
    c.due("look(20)", x.look(20), 0);
    c.due("look(21)", x.look(21), 0);
    c.due("look(22)", x.look(22), 30);
    c.due("undo()", x.undo(), false);
    c.due("image(false)", x.image(false), false);
    c.due("NONE", RansomPieces.NONE, -1);
  }

  private static void state() {
    c.part("2 state");
    RansomPieces x = new RansomPieces();
    c.due("state(5)", x.state(5), 0);
    c.due("state(-7)", x.state(-7), 5);
    c.due("look(8)", x.look(8), -7);
    c.due("state(MIN)", x.state(Integer.MIN_VALUE), -7);
    x.set(3, 0, 1000);
    x.weeks(1);
    c.due("look(8) behind a DRAW", x.look(8), Integer.MIN_VALUE * 1664525 + 1013904223);
  }

  private static void thing() {
    c.part("3 thing");
    RansomPieces x = new RansomPieces();
    c.due("thing(-1)", x.thing(-1), -1);
    c.due("thing(1000)", x.thing(1000), -1);
    c.due("thing(0)", x.thing(0), 0);
    c.due("thing(999)", x.thing(999), 1);
    Check.tell(x, 3, "1 after 0;");
    c.due("thing(-1) leaves AFTER", x.thing(-1), -1);
    c.due("look(12)", x.look(12), 1);
    c.due("thing(3)", x.thing(3), 2);
    c.due("AFTER is empty", x.look(12), 0);
    c.due("of(1, 7)", x.of(1, 7), 0);
    for (int i = 3; i < 8; i++) {
      c.due("thing(1)", x.thing(1), i);
    }
    c.due("a ninth", x.thing(1), -1);
    c.due("look(0)", x.look(0), 8);
    x = Check.open(4);
    x.pay(0, 0);
    c.due("HIM is HOME", x.thing(1), -1);
    x = Check.open(4, 5);
    x.pay(0, 0);
    c.due("another is HOME", x.thing(1), 2);
    c.due("of(1, 6) as no longer HIM", x.of(1, 6), 0);
    x.weeks(1);
    c.due("of(1, 6) a WEEK on", x.of(1, 6), 1);
    c.due("of(2, 6)", x.of(2, 6), 0);
  }

  private static void set() {
    c.part("4 set");
    int[] most = {99999, 9999, 99, 1000, 99, 60};
    int[] seen = {3, 4, 5, 20, 21, 22};
    RansomPieces x = new RansomPieces();
    for (int i = 0; i < 6; i++) {
      c.due("set most " + i, x.set(i, -5, most[i]), true);
      c.due("seen " + i, x.look(seen[i]), most[i]);
      c.due("set above " + i, x.set(i, 0, most[i] + 1), false);
      c.due("set below " + i, x.set(i, 0, -1), false);
      c.due("seen " + i, x.look(seen[i]), most[i]);
      c.due("set 0 " + i, x.set(i, 99, 0), true);
      c.due("seen " + i, x.look(seen[i]), 0);
    }
    c.due("set(6) without THINGS", x.set(6, 0, 1), false);
    c.due("set(7) without THINGS", x.set(7, 0, 1), false);
    c.due("set(8)", x.set(8, 0, 0), false);
    c.due("set(-1)", x.set(-1, 0, 0), false);
    x = Check.with(5, 6);
    c.due("set(6, 1, 999)", x.set(6, 1, 999), true);
    c.due("of(1, 0)", x.of(1, 0), 999);
    c.due("of(0, 0)", x.of(0, 0), 5);
    c.due("set(6, 1, 1000)", x.set(6, 1, 1000), false);
    c.due("set(6, 2, 9)", x.set(6, 2, 9), false);
    c.due("set(6, -1, 9)", x.set(6, -1, 9), false);
    c.due("set(7, 0, 99)", x.set(7, 0, 99), true);
    c.due("of(0, 1)", x.of(0, 1), 99);
    c.due("set(7, 0, 100)", x.set(7, 0, 100), false);
    c.due("set(7, 0, -1)", x.set(7, 0, -1), false);
  }

  private static void pay() {
    c.part("9 pay");
    RansomPieces x = Check.with(10, 20);
    x.set(0, 0, 25);
    Check.tell(x, 2, "pass 3 from 1 to 2 mud 1;cave 1 by 0;");
    c.due("not open yet", x.pay(0, 3), -1);
    x.weeks(1);
    c.due("a PASS with a CAVE alone", x.pay(0, 0), -1);
    c.due("no such PASS", x.pay(0, 6), -1);
    c.due("no such PASS", x.pay(0, -1), -1);
    c.due("no such THING", x.pay(2, 3), -1);
    c.due("no such THING", x.pay(-1, 3), -1);
    c.due("HIM too early", x.pay(1, 3), -1);
    c.due("nothing was done", x.look(17), 1);
    c.due("pay(0, 3)", x.pay(0, 3), 10);
    c.due("GOLD", x.look(3), 15);
    c.due("LAST", x.look(6), 0);
    c.due("HOME", x.look(1), 1);
    c.due("once more", x.pay(0, 3), -1);
    c.due("a second in a WEEK", x.pay(1, 3), -1);
    x.weeks(1);
    c.due("not GOLD enough", x.pay(1, 3), -1);
    x.set(0, 0, 20);
    c.due("just GOLD enough", x.pay(1, 3), 20);
    c.due("GOLD", x.look(3), 0);
    c.due("LAST", x.look(6), 1);
    x = Check.open(0);
    c.due("PRICE of WORTH 0", x.pay(0, 0), 1);
    x = Check.open(50, 60, 70);
    Check.tell(x, 0, "price home*1000+last;");
    c.due("held to 1", x.pay(1, 0), 1);
    x.weeks(1);
    c.due("home and last", x.pay(0, 0), 1060);
    x.set(6, 0, 5);
    c.due("last is WORTH as it is now", x.of(2, 5), 2005);
  }

  private static void come() {
    c.part("what may COME");
    RansomPieces x = Check.open(1, 2, 3, 4);
    Check.tell(x, 3, "0 after 2 1;1 after 2;");
    c.due("0", x.of(0, 6), 0);
    c.due("1", x.of(1, 6), 0);
    c.due("2", x.of(2, 6), 1);
    c.due("HIM", x.of(3, 6), 0);
    x.pay(2, 0);
    c.due("in the same WEEK", x.of(1, 6), 0);
    x.weeks(1);
    c.due("0 yet", x.of(0, 6), 0);
    c.due("1 then", x.of(1, 6), 1);
    c.due("2 is HOME", x.of(2, 6), 0);
    x.pay(1, 0);
    x.weeks(1);
    x.pay(0, 0);
    c.due("HIM in the same WEEK", x.of(3, 6), 0);
    x.weeks(1);
    c.due("HIM", x.of(3, 6), 1);
    x = Check.open(1, 2);
    Check.tell(x, 3, "0 after 1;");
    c.due("after HIM", x.of(0, 6), 0);
    c.due("HIM without it", x.of(1, 6), 0);
    x = Check.open(1, 2, 3);
    x.set(3, 0, 1000);
    x.weeks(1);
    c.due("with the RIVAL", x.of(0, 2), 2);
    c.due("it may COME", x.of(0, 6), 1);
    c.due("and is paid for", x.pay(0, 0), 1);
    c.due("and is HOME", x.of(0, 2), 1);
  }

  private static void cry() {
    c.part("10 cry");
    RansomPieces x = new RansomPieces();
    c.due("cry(0)", x.cry(0), -1);
    c.due("cry(-1)", x.cry(-1), -1);
    c.due("cry(21)", x.cry(21), -1);
    c.due("look(17)", x.look(17), 0);
    c.due("cry(1)", x.cry(1), 1);
    c.due("cry(20)", x.cry(20), 21);
    x.set(2, 0, 90);
    c.due("cry(12)", x.cry(12), 99);
    c.due("cry(1) at the most", x.cry(1), 99);
    c.due("THE BOOK has it too", x.look(7), 4);
  }

  private static void weeks() {
    c.part("11 weeks");
    RansomPieces x = Check.open(10, 200, 30);
    c.due("weeks(0)", x.weeks(0), -1);
    c.due("weeks(21)", x.weeks(21), -1);
    c.due("weeks(-1)", x.weeks(-1), -1);
    x.pay(0, 0);
    x.set(2, 0, 2);
    x.set(1, 0, 5);
    c.due("weeks(3)", x.weeks(3), 0);
    c.due("WEAR of what is HOME", x.of(0, 1), 0);
    c.due("WEAR", x.of(1, 1), 3);
    c.due("CRIES", x.look(5), 0);
    c.due("CREDIT", x.look(4), 2);
    c.due("WEEK", x.look(2), 3);
    x.weeks(20);
    x.weeks(20);
    c.due("weeks(18)", x.weeks(18), -1);
    c.due("WEEK stays", x.look(2), 43);
    c.due("weeks(17)", x.weeks(17), 0);
    c.due("weeks(1) at 60", x.weeks(1), -1);
    c.due("CREDIT at least 0", x.look(4), 0);
    x = Check.with(10, 200, 30);
    Check.tell(x, 1, "wear 99 when thing=0;wear 0-4 when thing=1;wear week+cries+credit;eat cries when week>0;eat 3+thing+worth+wears+rival;");
    x.set(1, 0, 9);
    x.set(2, 0, 2);
    x.weeks(1);
    c.due("wear held to 20", x.of(0, 1), 20);
    c.due("wear held to 0", x.of(1, 1), 0);
    c.due("wear ahead of all else", x.of(2, 1), 11);
    c.due("eat without a THING", x.look(4), 6);
    x.weeks(1);
    c.due("wear a WEEK on", x.of(2, 1), 11 + 1 + 1 + 6);
    c.due("eat by cries ahead of one less", x.look(4), 5);
    x.set(7, 0, 95);
    x.weeks(1);
    c.due("WEAR 99 at most", x.of(0, 1), 99);
  }

  /** The first DRAWS from STATE 0: 3960563 and 4673577 are the highest 24 bits. */
  private static void draws() {
    c.part("draws");
    int first = 1013904223;
    int second = first * 1664525 + 1013904223;
    int firstOf100 = (first >>> 8) % 100;
    RansomPieces x = new RansomPieces();
    Check.tell(x, 1, "gain 50+credit;eat 4;");
    x.set(1, 0, 10);
    x.set(4, 0, firstOf100);
    x.weeks(1);
    c.due("CARDS not above the DRAW", x.look(4), 6);
    c.due("one DRAW", x.look(8), first);
    x.state(0);
    x.set(1, 0, 10);
    x.set(4, 0, firstOf100 + 1);
    x.weeks(1);
    c.due("gain by CREDIT as it is then", x.look(4), 6 + 56);
    x.state(0);
    x.set(1, 0, 4);
    x.weeks(1);
    c.due("CREDIT 0", x.look(4), 0);
    c.due("no DRAW at CREDIT 0", x.look(8), 0);
    x.set(1, 0, 10);
    x.set(4, 0, 0);
    x.weeks(1);
    c.due("no DRAW at CARDS 0", x.look(8), 0);
    x.set(4, 0, 99);
    x.set(3, 0, 1);
    x.weeks(1);
    c.due("both DRAWS", x.look(8), second);
    x.set(3, 0, 0);
    x.set(4, 0, 99);
    Check.tell(x, 1, "eat 0;");
    x.state(0);
    x.set(1, 0, 1);
    x.weeks(1);
    c.due("a DRAW at CREDIT 1", x.look(8), first);
    c.due("no gain without a line", x.look(4), 1);
    Check.tell(x, 1, "eat 0;gain 0-5;");
    x.state(0);
    x.weeks(1);
    c.due("gain held to 0", x.look(4), 1);
    Check.tell(x, 1, "eat 0;gain 100;");
    x.state(0);
    x.weeks(1);
    c.due("gain held to 99", x.look(4), 100);
    x.set(4, 0, 1);
    x.state(0);
    x.weeks(1);
    c.due("a DRAW at CARDS 1", x.look(8), first);
    x.set(4, 0, 99);
    x.thing(900);
    x.set(7, 0, 80);
    Check.tell(x, 1, "eat 2+thing+worth+wears+rival;gain 3+thing+worth+wears+rival;wear 0;");
    x.state(0);
    x.set(1, 0, 50);
    x.weeks(1);
    c.due("eat and gain without a THING", x.look(4), 51);
    Check.tell(x, 1, "gain 9999;eat 0;");
    x.state(0);
    x.set(1, 0, 9950);
    x.weeks(1);
    c.due("CREDIT 9999 at most", x.look(4), 9999);
  }

  private static void rival() {
    c.part("the rival");
    int first = (1013904223 >>> 8) % 1000;
    RansomPieces x = Check.open(1, 2, 3);
    x.set(3, 0, first);
    c.due("not below RIVAL", x.weeks(1), 0);
    x.state(0);
    x.set(3, 0, first + 1);
    c.due("below RIVAL", x.weeks(1), 1);
    c.due("the least", x.of(0, 2), 2);
    x.set(3, 0, 1000);
    c.due("HIM never", x.weeks(5), 1);
    c.due("the next", x.of(1, 2), 2);
    c.due("HIM", x.of(2, 2), 0);
    x = Check.open(1, 2, 3);
    x.pay(0, 0);
    x.set(3, 0, 1000);
    c.due("not what is HOME", x.weeks(1), 1);
    c.due("HOME", x.of(0, 2), 1);
    c.due("taken", x.of(1, 2), 2);
    Check.tell(x, 0, "price 7 when rival=1;price 8;");
    c.due("rival in a law", x.of(1, 5), 7);
    c.due("rival in a law", x.of(2, 5), 8);
    Check.tell(x, 1, "wear 10*rival;");
    x.set(7, 1, 0);
    x.set(7, 2, 0);
    x.weeks(1);
    c.due("rival wears", x.of(1, 1), 10);
    c.due("rival wears", x.of(2, 1), 0);
  }

  private static void goes() {
    c.part("12 goes");
    RansomPieces x = Check.open(10, 20);
    c.due("goes without A PLAN", x.goes(), 0);
    c.due("it can be undone", x.look(17), 1);
    Check.tell(x, 4, "pay 1 by 0;pay 0 by 0;pay 0 by 0;cry 5;again 2(wait 1;pay 1 by 0;cry 2;)");
    c.due("goes", x.goes(), 7);
    c.due("look(17)", x.look(17), 1);
    c.due("WEEK", x.look(2), 2);
    c.due("CRIES", x.look(5), 7);
    c.due("HOME", x.look(1), 3);
    c.due("THE BOOK", x.look(7), 5);
    x.set(0, 0, 0);
    Check.tell(x, 4, "again 4(wait 20;)cry 1;");
    c.due("no more than 60", x.goes(), 4);
    c.due("WEEK", x.look(2), 60);
    c.due("no WEEK at all", x.goes(), 1);
    c.due("A PLAN stays", x.look(13), 5);
    x = Check.with(10, 20);
    x.set(0, 0, 99);
    Check.tell(x, 2, "pass 5 from 0 to 9 mud 0;pass 4 from 0 to 9 mud 0;");
    Check.tell(x, 4, "again 2(pay 1 by 4;wait 1;pay 0 by 5;)");
    c.due("by PASSES", x.goes(), 3);
    c.due("HIM not in the same WEEK", x.look(1), 1);
    Check.tell(x, 4, "again 2(wait 1;pay 1 by 4;)");
    c.due("by PASSES", x.goes(), 3);
    c.due("the first PASS", x.of(0, 4), 5);
    c.due("the second PASS", x.of(1, 4), 4);
    Check.tell(x, 4, "cry 1;again 2(pay 0 by 0;again 3(cry 2;)wait 2;)cry 3;");
    c.due("as often as it is told", x.goes(), 10);
    c.due("CRIES", x.look(5), 1 + 6 - 2 + 6 - 2 + 3);
    x = Check.open(10, 20);
    Check.tell(x, 2, "pass 3 from 1 to 9 mud 0;");
    Check.tell(x, 4, "again 2(pay 0 by 3;wait 1;)");
    c.due("by the PASS that is told again", x.goes(), 3);
    c.due("the PASS", x.of(0, 4), 3);
    x = Check.open(10, 20, 30);
    x.set(3, 0, 1000);
    Check.tell(x, 4, "wait 3;");
    c.due("wait is one deed", x.goes(), 1);
    c.due("the RIVAL comes by a wait too", x.look(7), 2);
  }

  private static void of() {
    c.part("13 of");
    RansomPieces x = Check.with(10, 20);
    c.due("no such", x.of(2, 0), -2);
    c.due("no such", x.of(-1, 0), -2);
    c.due("another what", x.of(0, 8), -2);
    c.due("another what", x.of(0, -1), -2);
    c.due("PASS", x.of(0, 4), -1);
    c.due("PAID", x.of(0, 3), 0);
    c.due("HOW", x.of(0, 2), 0);
    x.set(0, 0, 99);
    Check.tell(x, 2, "pass 4 from 0 to 9 mud 0;");
    x.pay(0, 4);
    c.due("PASS", x.of(0, 4), 4);
    c.due("PAID", x.of(0, 3), 10);
    c.due("HOW", x.of(0, 2), 1);
    x.set(6, 0, 77);
    c.due("PAID stays", x.of(0, 3), 10);
    c.due("PRICE of what is HOME", x.of(0, 5), 77);
  }

  private static void mud() {
    c.part("14 mud");
    RansomPieces x = new RansomPieces();
    Check.tell(x, 2, "pass 1 from 5 to 9 mud 3;cave 0 by 1;pass 1 from 7 to 12 mud 4;pass 0 from 60 to 60 mud 0;");
    c.due("ahead", x.mud(1, 4), -1);
    c.due("from", x.mud(1, 5), 3);
    c.due("the first line", x.mud(1, 7), 3);
    c.due("the first line", x.mud(1, 9), 3);
    c.due("the second", x.mud(1, 10), 4);
    c.due("to", x.mud(1, 12), 4);
    c.due("behind", x.mud(1, 13), -1);
    c.due("0 at 60", x.mud(0, 60), 0);
    c.due("61", x.mud(0, 61), -1);
    c.due("-1", x.mud(0, -1), -1);
    c.due("pass 6", x.mud(6, 7), -1);
    c.due("pass -1", x.mud(-1, 7), -1);
    c.due("pass 2", x.mud(2, 7), -1);
  }

  private static void book() {
    c.part("15 book");
    RansomPieces x = Check.open(10, 20, 30);
    x.set(3, 0, 1000);
    x.cry(3);
    x.weeks(1);
    x.pay(1, 0);
    int[][] due = {{0, 1, 3, 0, -1}, {0, 2, 0, 0, -1}, {1, 0, 1, 20, 0}};
    for (int i = 0; i < 3; i++) {
      for (int j = 0; j < 5; j++) {
        c.due("book(" + i + ", " + j + ")", x.book(i, j), due[i][j]);
      }
    }
    c.due("no such line", x.book(3, 0), -2);
    c.due("no such line", x.book(-1, 0), -2);
    c.due("another what", x.book(0, 5), -2);
    c.due("another what", x.book(0, -1), -2);
    x.set(3, 0, 0);
    Check.tell(x, 4, "again 6(again 9(cry 1;))");
    x.goes();
    x.goes();
    c.due("lines", x.look(7), 111);
    x.goes();
    c.due("120 at most", x.look(7), 120);
    c.due("the last", x.book(119, 2), 1);
    c.due("no more", x.book(120, 2), -2);
    c.due("and yet it is paid", x.weeks(1), 0);
    c.due("and yet it is paid", x.pay(0, 0), 10);
    c.due("120 yet", x.look(7), 120);
  }
}
