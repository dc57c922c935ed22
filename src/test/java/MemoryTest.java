/** Promises 30 to 32: going back by deeds, the image, and looking. */
public final class MemoryTest {
  private static final Check c = new Check();

  public static void main(String[] args) {
    undo();
    undoSix();
    undoOneWeek();
    undoPlanWhole();
    forgets();
    image();
    look();
    c.finish();
  }

  private static void undo() {
    c.part("30 undo");
    RansomPieces x = Check.open(10, 20, 30);
    x.set(3, 0, 1000);
    x.set(1, 0, 50);
    x.set(4, 0, 99);
    Check.tell(x, 4, "pay 1 by 0;cry 4;wait 2;");
    c.due("nothing", x.undo(), false);
    x.pay(0, 0);
    x.cry(5);
    x.weeks(3);
    int state = x.look(8);
    int credit = x.look(4);
    c.due("the RIVAL took one", x.of(1, 2), 2);
    x.goes();
    c.due("look(17)", x.look(17), 6);
    c.due("A PLAN goes back", x.undo(), true);
    c.due("STATE", x.look(8), state);
    c.due("CREDIT", x.look(4), credit);
    c.due("WEEK", x.look(2), 3);
    c.due("HOW", x.of(1, 2), 2);
    c.due("PAID", x.of(1, 3), 0);
    c.due("PASS", x.of(1, 4), -1);
    c.due("THE BOOK", x.look(7), 3);
    c.due("no line", x.book(3, 0), -2);
    for (int week = 2; week >= 0; week--) {
      c.due("a WEEK goes back", x.undo(), true);
      c.due("WEEK", x.look(2), week);
      c.due("CRIES", x.look(5), 5 - week);
      c.due("WEAR", x.of(2, 1), week);
    }
    c.due("STATE", x.look(8), 0);
    c.due("CREDIT", x.look(4), 50);
    c.due("CRIES", x.look(5), 5);
    c.due("WEAR", x.of(1, 1), 0);
    c.due("HOW", x.of(1, 2), 0);
    c.due("one came in this WEEK", x.of(1, 6), 0);
    c.due("CRY goes back", x.undo(), true);
    c.due("CRIES", x.look(5), 0);
    c.due("THE BOOK", x.look(7), 1);
    c.due("PAYING goes back", x.undo(), true);
    c.due("GOLD", x.look(3), 99999);
    c.due("LAST", x.look(6), -1);
    c.due("HOME", x.look(1), 0);
    c.due("none came in this WEEK", x.of(1, 6), 1);
    c.due("THE BOOK", x.look(7), 0);
    c.due("no more", x.undo(), false);
    c.due("look(17)", x.look(17), 0);
    x.cry(1);
    c.due("THE BOOK goes on", x.book(0, 2), 1);
    c.due("least knows of it", x.least(0), 60);
    x.pay(0, 0);
    c.due("least knows of it", x.least(0), 50);
    x.undo();
    c.due("least knows of it", x.least(0), 60);
  }

  private static void undoSix() {
    c.part("30 six are kept");
    RansomPieces x = new RansomPieces();
    for (int i = 1; i <= 9; i++) {
      x.cry(i);
    }
    c.due("look(17)", x.look(17), 6);
    for (int i = 0; i < 6; i++) {
      c.due("undo", x.undo(), true);
    }
    c.due("a seventh", x.undo(), false);
    c.due("CRIES", x.look(5), 6);
    x.cry(20);
    c.due("one more", x.undo(), true);
    c.due("CRIES", x.look(5), 6);
  }

  private static void undoOneWeek() {
    c.part("30 weeks(n) is n WEEKS done");
    RansomPieces x = Check.open(10, 20, 30, 40);
    x.set(1, 0, 50);
    x.set(2, 0, 1);
    x.set(3, 0, 1000);
    c.due("weeks(2)", x.weeks(2), 2);
    c.due("two can be undone", x.look(17), 2);
    c.due("the second", x.undo(), true);
    c.due("the first stands", x.look(2), 1);
    c.due("WEAR", x.of(3, 1), 1);
    c.due("CREDIT", x.look(4), 49);
    c.due("STATE", x.look(8), 1013904223);
    c.due("the RIVAL's first", x.of(0, 2), 2);
    c.due("not his second", x.of(1, 2), 0);
    c.due("THE BOOK", x.look(7), 1);
    c.due("CRIES", x.cry(1), 1);
    c.due("a CRY and a WEEK", x.look(17), 2);
    x.undo();
    c.due("the first", x.undo(), true);
    c.due("WEEK", x.look(2), 0);
    c.due("CRIES", x.look(5), 1);
    c.due("no more", x.undo(), false);
    x.pay(0, 0);
    x.weeks(20);
    c.due("six of them are kept", x.look(17), 6);
    for (int i = 1; i <= 6; i++) {
      c.due("one of six", x.undo(), true);
      c.due("WEEK", x.look(2), 20 - i);
    }
    c.due("the PAYING is forgotten", x.undo(), false);
    c.due("WEEK", x.look(2), 14);
    x.cry(1);
    c.due("WEEKS that can't be", x.weeks(0), -1);
    x.weeks(20);
    x.weeks(20);
    c.due("WEEKS that can't be", x.weeks(7), -1);
    x.undo();
    c.due("nothing of them was kept", x.look(2), 53);
    c.due("look(17)", x.look(17), 5);
  }

  private static void undoPlanWhole() {
    c.part("30 A PLAN is one, its WEEKS too");
    RansomPieces x = Check.open(10, 20);
    Check.tell(x, 4, "cry 9;again 3(wait 2;)pay 0 by 0;");
    x.weeks(2);
    c.due("goes", x.goes(), 5);
    c.due("one more", x.look(17), 3);
    x.undo();
    c.due("WEEK", x.look(2), 2);
    c.due("CRIES", x.look(5), 0);
    x.undo();
    c.due("WEEK", x.look(2), 1);
  }

  private static RansomPieces done() {
    RansomPieces x = Check.open(10, 20);
    Check.feed(x, "cave 1 by 1;");
    x.cry(5);
    return x;
  }

  private static void forgets() {
    c.part("30 what forgets");
    RansomPieces x = done();
    x.state(4);
    c.due("STATE", x.undo(), false);
    x = done();
    x.thing(4);
    c.due("a THING", x.undo(), false);
    for (int i = 0; i < 8; i++) {
      x = done();
      x.set(i, 0, 1);
      c.due("set " + i, x.undo(), false);
      x = done();
      x.set(i, 0, -1);
      c.due("no set " + i, x.undo(), true);
    }
    x = done();
    x.text(2);
    c.due("THE HILLS", x.undo(), false);
    x = done();
    Check.tell(x, 0, "");
    c.due("faulty PRICES don't", x.undo(), true);
    for (int k = 0; k < 5; k++) {
      x = done();
      x.end(0);
      x.text(k);
      c.due("TEXT " + k, x.undo(), k < 2);
      x = done();
      x.end(2);
      x.text(k);
      c.due("TEXT " + k + " with a FAULT", x.undo(), true);
    }
    x = done();
    x.text(9);
    x.thing(-1);
    x.letter(3);
    x.sight(0, 1, 1);
    x.sight(-1, 0, 0);
    x.errand(1, 1);
    x.errand(-1, 0);
    x.image(true);
    x.feed(0, 0, 0, 0, 0);
    x.end(0);
    x.least(0);
    x.hit(0);
    x.pay(1, 0);
    x.cry(0);
    x.weeks(0);
    c.due("what doesn't", x.look(17), 1);
    c.due("what doesn't", x.undo(), true);
    c.due("LETTERS stay", x.look(14), 1);
    x = done();
    Check.tell(x, 0, "");
    x.end(0);
    Check.tell(x, 0, "price 77;");
    x.undo();
    c.due("LAWS stay", x.of(0, 5), 77);
  }

  private static void image() {
    c.part("31 the image");
    RansomPieces x = Check.open(10, 20, 30);
    c.due("none", x.image(false), false);
    Check.tell(x, 3, "1 after 0;");
    Check.tell(x, 0, "price worth+1;");
    Check.tell(x, 1, "wear 2;");
    Check.tell(x, 4, "cry 2;pay 1 by 0;");
    x.letter(1);
    x.letter(3);
    x.sight(0, 0, 1);
    x.errand(2, 2);
    x.errand(3, 2);
    x.set(1, 0, 44);
    x.set(2, 0, 3);
    x.set(3, 0, 5);
    x.set(4, 0, 6);
    x.set(5, 0, 7);
    x.state(8);
    x.pay(0, 0);
    int[] seen = new int[23];
    for (int i = 0; i < 23; i++) {
      seen[i] = x.look(i);
    }
    c.due("taken", x.image(true), true);
    c.due("what can be undone stays", x.look(17), 1);
    for (int round = 0; round < 2; round++) {
      x.undo();
      x.cry(9);
      Check.tell(x, 0, "");
      Check.tell(x, 1, "");
      Check.tell(x, 2, "");
      Check.tell(x, 4, "");
      x.letter(7);
      x.sight(-1, 0, 0);
      x.sight(1, 50, 0);
      x.sight(1, 51, 0);
      x.errand(-1, 0);
      x.errand(1, 1);
      for (int i = 0; i < 8; i++) {
        x.set(i, 1, 50);
      }
      x.state(99);
      x.thing(5);
      x.weeks(4);
      Check.feed(x, "price 1");
      x.text(0);
      Check.feed(x, "price 5;");
      c.due("gone back to", x.image(false), true);
      for (int i = 0; i < 23; i++) {
        c.due("look(" + i + ")", x.look(i), i == 17 ? 0 : seen[i]);
      }
      c.due("fault() stays", x.fault(1), 7);
      c.due("the TAPE stays", x.end(8), true);
      x.end(0);
      c.due("WORTH", x.of(1, 0), 20);
      c.due("WEAR", x.of(1, 1), 0);
      c.due("PAID", x.of(0, 3), 11);
      c.due("PRICE", x.of(1, 5), 21);
      c.due("AFTER", x.of(1, 7), 1);
      c.due("one came", x.of(1, 6), 0);
      c.due("THE HILLS", x.mud(0, 60), 0);
      c.due("THE BOOK", x.book(0, 3), 11);
      c.due("LETTERS", x.letters(0), 1);
      c.due("LETTERS", x.letters(10), 1);
      c.due("SIGHTS", x.wrong(), 1);
      c.due("ERRANDS", x.messengers(0), 2);
      c.due("ERRANDS", x.messengers(1), 3);
      c.due("LEAST", x.least(0), 52);
      c.due("nothing can be undone", x.undo(), false);
      c.due("THE PLAN", x.goes(), 1);
      c.due("CRIES", x.look(5), 5);
      x.weeks(1);
      c.due("THE LAW OF WEEKS", x.of(1, 1), 2);
    }
    c.due("taken anew", x.image(true), true);
    int week = x.look(2);
    x.weeks(1);
    x.image(false);
    c.due("the latest", x.look(2), week);
    x.cry(1);
    c.due("what was done since can be undone", x.undo(), true);
  }

  private static void look() {
    c.part("32 look");
    RansomPieces x = Check.open(10, 20, 30);
    int[] none = {-1, 18, 19, 23, 24, 99, Integer.MAX_VALUE, Integer.MIN_VALUE};
    for (int what : none) {
      c.due("look(" + what + ")", x.look(what), -1000);
    }
    Check.tell(x, 0, "price 5;price 6;");
    Check.tell(x, 1, "eat 5;eat 1;eat 2;");
    Check.tell(x, 2, "pass 0 from 0 to 60 mud 0;cave 1 by 1;cave 1 by 2;cave 1 by 3;");
    Check.tell(x, 3, "1 after 0;1 after 0;1 after 0;1 after 0;1 after 0;");
    Check.tell(x, 4, "again 6(cry 1;)");
    for (int i = 0; i < 7; i++) {
      x.letter(0);
    }
    for (int i = 0; i < 8; i++) {
      x.sight(0, 0, 0);
    }
    for (int i = 0; i < 9; i++) {
      x.errand(0, 1);
    }
    x.set(1, 0, 40);
    x.set(3, 0, 41);
    x.set(4, 0, 42);
    x.set(5, 0, 43);
    x.state(-44);
    x.pay(0, 0);
    x.cry(7);
    int[] due = {3, 1, 0, 99994, 40, 7, 0, 2, -44, 2, 3, 4, 5, 6, 7, 8, 9, 2, -1000, -1000, 41, 42, 43};
    for (int i = 0; i < due.length; i++) {
      c.due("look(" + i + ")", x.look(i), due[i]);
    }
    x.weeks(2);
    c.due("WEEK", x.look(2), 2);
  }
}
