/** Promises 5 to 8 and the TEXTS of the terms: the TAPE, the grammar, FAULTS and their places. */
public final class TextsTest {
  private static final Check c = new Check();

  public static void main(String[] args) {
    tape();
    textAndFault();
    prices();
    weekly();
    hills();
    after();
    plan();
    values();
    c.finish();
  }

  private static void tape() {
    c.part("5 feed, 6 end");
    RansomPieces x = new RansomPieces();
    c.due("end(0)", x.end(0), true);
    c.due("end(1)", x.end(1), false);
    c.due("end(-1)", x.end(-1), false);
    for (int i = 1; i <= 20; i++) {
      c.due("feed " + i, x.feed(0, -1, 1, 2, 3), 20 * i);
    }
    c.due("feed 21", x.feed(0, 0, 0, 0, 0), -1);
    c.due("end(401)", x.end(401), false);
    c.due("end(400)", x.end(400), true);
    c.due("end(381)", x.end(381), true);
    c.due("feed behind 381", x.feed(0, 0, 0, 0, 0), -1);
    c.due("end(382)", x.end(382), false);
    c.due("end(380)", x.end(380), true);
    c.due("feed behind 380", x.feed(0, 0, 0, 0, 0), 400);
    x = Check.with(7);
    Check.feed(x, "price ");
    Check.feed(x, "12;");
    c.due("text of two feedings", x.text(0), 1);
    c.due("of(0, 5)", x.of(0, 5), 12);
    Check.feed(x, "price 13;");
    x.end(0);
    c.due("text of nothing", x.text(0), 0);
    c.due("of(0, 5) without a law", x.of(0, 5), 7);
    c.due("feed of a byte above 127", x.feed(0xffffffff, 0, 0, 0, 0), 20);
    c.due("text of it", x.text(0), -1);
    c.due("fault(1)", x.fault(1), 0);
  }

  private static void textAndFault() {
    c.part("7 text, 8 fault");
    RansomPieces x = Check.with(5, 6);
    c.due("fault(0) at first", x.fault(0), 0);
    c.due("fault(1) at first", x.fault(1), -1);
    c.due("fault(2)", x.fault(2), -1);
    c.due("fault(-1)", x.fault(-1), -1);
    c.sound(x, 0, "price 3;", 1);
    c.faulty(x, 0, "price 4; x", 1, 9);
    c.due("a law that is faulty isn't taken", x.of(0, 5), 3);
    c.due("its lines", x.look(9), 1);
    c.due("the TAPE is empty behind a FAULT", x.end(1), false);
    Check.feed(x, "price 4;");
    c.due("text(5)", x.text(5), -1);
    c.due("fault(0) then", x.fault(0), 0);
    c.due("fault(1) then", x.fault(1), -1);
    c.due("text(-1)", x.text(-1), -1);
    c.due("of(0, 5) then", x.of(0, 5), 3);
    c.due("the TAPE is empty then too", x.end(1), false);
    c.faulty(x, 2, "pass", 1, 4);
    c.faulty(x, 3, "0 after", 1, 7);
    c.sound(x, 0, " \n price\n5 ;\n ", 1);
    c.due("of(0, 5)", x.of(0, 5), 5);
    c.sound(x, 0, "", 0);
    c.sound(x, 0, "  \n", 0);
    c.due("of(0, 5) without a law", x.of(0, 5), 5);
  }

  private static void prices() {
    c.part("the law of prices");
    RansomPieces x = Check.with(5, 6);
    c.sound(x, 0, "price thing+worth-wears*week/3 when home<1 or not last=2 and(cries>rival or credit=credit);price 9999;", 2);
    c.sound(x, 0, "price1when1=1;", 1);
    c.sound(x, 0, Check.times("price 1;", 16), 16);
    c.faulty(x, 0, Check.times("price 1;", 16) + " price 1;", 3, 129);
    c.faulty(x, 0, Check.times("price 1;", 16) + " prize 1;", 1, 129);
    c.faulty(x, 0, Check.times("price 1;", 16) + ";", 1, 128);
    c.faulty(x, 0, "price", 1, 5);
    c.faulty(x, 0, "price ", 1, 6);
    c.faulty(x, 0, "Price 1;", 1, 0);
    c.faulty(x, 0, "prices 1;", 1, 0);
    c.faulty(x, 0, "priceA 1;", 1, 0);
    c.faulty(x, 0, "priceZ 1;", 1, 0);
    c.faulty(x, 0, "pricez 1;", 1, 0);
    c.sound(x, 0, "price 9999/9999;", 1);
    c.faulty(x, 0, "pric 1;", 1, 0);
    c.faulty(x, 0, "price 1", 1, 7);
    c.faulty(x, 0, "price 1;;", 1, 8);
    c.faulty(x, 0, "price 00001;", 1, 6);
    c.faulty(x, 0, "price -1;", 1, 6);
    c.faulty(x, 0, "price (1);", 1, 6);
    c.faulty(x, 0, "price 1+;", 1, 8);
    c.faulty(x, 0, "price 1 1;", 1, 8);
    c.faulty(x, 0, "price 1/worth;", 1, 8);
    c.faulty(x, 0, "price 1/00;", 2, 8);
    c.faulty(x, 0, "price 1/0000", 2, 8);
    c.faulty(x, 0, "price 1/00000", 1, 8);
    c.faulty(x, 0, "price 1\t;", 1, 7);
    c.faulty(x, 0, "price 1 when;", 1, 12);
    c.faulty(x, 0, "price 1 when 1=1=1;", 1, 16);
    c.faulty(x, 0, "price 1 when (1)=1;", 1, 15);
    c.faulty(x, 0, "price 1 when (1=1;", 1, 17);
    c.faulty(x, 0, "price 1 when 1=1);", 1, 16);
    c.faulty(x, 0, "price 1 when 1=1 and;", 1, 20);
    c.faulty(x, 0, "price 1 when or 1=1;", 1, 13);
    c.faulty(x, 0, "price 1 when 1<=1;", 1, 15);
    c.faulty(x, 0, "price eat;", 1, 6);
    c.faulty(x, 0, "wear 1;", 1, 0);
    c.sound(x, 0, "price 1 when " + Check.times("(", 8) + "1=1" + Check.times(")", 8) + ";", 1);
    c.sound(x, 0, "price 1 when " + Check.times("not ", 8) + "1=1 and " + Check.times("not(", 4) + "2=2))));", 1);
    c.faulty(x, 0, "price 1 when " + Check.times("(", 9) + "1=1", 3, 21);
    c.faulty(x, 0, "price 1 when " + Check.times("not(", 3) + "1=1 and not 1=1 and not(not 2=2)))));", 3, 49);
    c.faulty(x, 0, "price 1 when " + Check.times("not ", 8) + "(1=1);", 3, 45);
    c.sound(x, 0, "price 1 when " + Check.times("(1=1)and ", 12) + "1=1;", 1);
  }

  private static void weekly() {
    c.part("the law of weeks");
    RansomPieces x = Check.with(5, 6);
    c.sound(x, 1, "wear thing+worth when wears<week;eat cries*rival;gain credit/2 when not 1=2;", 3);
    c.faulty(x, 1, "wear home;", 1, 5);
    c.faulty(x, 1, "wear 1 when last=1;", 1, 12);
    c.faulty(x, 1, "price 1;", 1, 0);
    c.faulty(x, 1, "wears 1;", 1, 0);
    c.sound(x, 1, Check.times("wear 1;eat 2;gain 3;wear 4;", 4), 16);
    c.due("look(10)", x.look(10), 16);
    c.faulty(x, 1, Check.times("wear 1;eat 2;gain 3;wear 4;", 4) + "gain 1;", 3, 4 * 27);
    c.due("look(10)", x.look(10), 16);
  }

  private static void hills() {
    c.part("the hills");
    RansomPieces x = Check.with(5);
    c.sound(x, 2, "pass 5 from 60 to 60 mud 5;cave 7 by 5;pass 0 from 0 to 0 mud 0;", 3);
    c.faulty(x, 2, "pass 6 from 0 to 1 mud 0;", 2, 5);
    c.faulty(x, 2, "pass 0 from 61 to 61 mud 0;", 2, 12);
    c.faulty(x, 2, "pass 0 from 5 to 4 mud 0;", 2, 17);
    c.faulty(x, 2, "pass 0 from 5 to 61 mud 0;", 2, 17);
    c.faulty(x, 2, "pass 0 from 5 to 5 mud 6;", 2, 23);
    c.faulty(x, 2, "cave 8 by 0;", 2, 5);
    c.faulty(x, 2, "cave 0 by 6;", 2, 10);
    c.faulty(x, 2, "cave 0 from 1;", 1, 7);
    c.faulty(x, 2, "pass 0 to 1;", 1, 7);
    c.faulty(x, 2, "pass pass", 1, 5);
    c.faulty(x, 2, "hill 1;", 1, 0);
    c.faulty(x, 2, "cave 0 by 0", 1, 11);
    c.due("look(11) as it was", x.look(11), 3);
    c.sound(x, 2, Check.times("cave 1 by 1;", 24), 24);
    c.faulty(x, 2, Check.times("cave 1 by 1;", 24) + "pass 9", 3, 288);
    c.faulty(x, 2, Check.times("cave 1 by 1;", 24) + "by", 1, 288);
  }

  private static void after() {
    c.part("after");
    RansomPieces x = Check.with(5, 6, 7);
    c.sound(x, 3, "0 after 1 2;1 after 2;2 after 0;0 after 1 1 1;", 4);
    c.due("of(0, 7)", x.of(0, 7), 6);
    c.due("of(1, 7)", x.of(1, 7), 4);
    c.due("of(2, 7)", x.of(2, 7), 1);
    c.due("look(12)", x.look(12), 4);
    c.faulty(x, 3, "3 after 0;", 2, 0);
    c.faulty(x, 3, "0 after 3;", 2, 8);
    c.faulty(x, 3, "0 after 1 0;", 2, 10);
    c.faulty(x, 3, "0 after;", 1, 7);
    c.faulty(x, 3, "0 1;", 1, 2);
    c.faulty(x, 3, "after 1;", 1, 0);
    c.faulty(x, 3, "0 after 1", 1, 9);
    c.due("of(0, 7) as it was", x.of(0, 7), 6);
    c.sound(x, 3, Check.times("1 after 0;", 12), 12);
    c.faulty(x, 3, Check.times("1 after 0;", 12) + "\n1 x", 3, 121);
    c.faulty(x, 3, Check.times("1 after 0;", 12) + "3 after 0;", 2, 120);
    c.faulty(x, 3, Check.times("1 after 0;", 12) + "x after 0;", 1, 120);
    c.sound(x, 3, "", 0);
    c.due("of(1, 7) without a line", x.of(1, 7), 0);
    c.faulty(new RansomPieces(), 3, "0 after 1;", 2, 0);
  }

  private static void plan() {
    c.part("a plan");
    RansomPieces x = Check.with(5, 6);
    c.sound(x, 4, "pay 1 by 5;cry 20;wait 20;again 9(again 1(again 1(again 1(cry 1;))))", 12);
    c.due("look(13)", x.look(13), 12);
    c.faulty(x, 4, "again 1(again 1(again 1(again 1(again 1(", 3, 32);
    c.sound(x, 4, "again 1(again 1(again 1(again 1())))again 1()", 0);
    c.faulty(x, 4, "pay 2 by 0;", 2, 4);
    c.faulty(x, 4, "pay 1 by 6;", 2, 9);
    c.faulty(x, 4, "pay 1;", 1, 5);
    c.faulty(x, 4, "cry 0;", 2, 4);
    c.faulty(x, 4, "cry 21;", 2, 4);
    c.faulty(x, 4, "wait 0;", 2, 5);
    c.faulty(x, 4, "wait 21;", 2, 5);
    c.faulty(x, 4, "again 0()", 2, 6);
    c.faulty(x, 4, "again 10()", 2, 6);
    c.faulty(x, 4, "again 2 cry 1;", 1, 8);
    c.faulty(x, 4, "again 2(cry 1;", 1, 14);
    c.faulty(x, 4, "again 2(cry 1;);", 1, 15);
    c.faulty(x, 4, "cry 1;)", 1, 6);
    c.faulty(x, 4, "(cry 1;)", 1, 0);
    c.faulty(x, 4, "cry 1", 1, 5);
    c.sound(x, 4, "again 6(again 2(cry 1;wait 1;pay 0 by 0;again 2(cry 1;)))", 60);
    c.faulty(x, 4, "again 6(again 2(cry 1;wait 1;pay 0 by 0;again 2(cry 1;)))cry 2; ", 4, 64);
    c.faulty(x, 4, "again 9(again 9(again 9(again 9(cry 1;))", 1, 40);
    c.faulty(x, 4, "again 9(again 9(again 9(again 9(cry 1;))))", 4, 42);
    c.faulty(x, 4, "again 9(again 9(cry 1;))cry 0;", 2, 28);
    c.due("look(13) as it was", x.look(13), 60);
  }

  private static void price(String law, int want) {
    RansomPieces x = Check.with(100, 30);
    x.set(7, 0, 17);
    x.set(1, 0, 55);
    x.set(2, 0, 8);
    Check.tell(x, 0, law);
    c.due("PRICE by '" + law + "'", x.of(0, 5), want);
  }

  private static void values() {
    c.part("what a law says");
    price("", 100);
    price("price 0;", 1);
    price("price 0-5;", 1);
    price("price 9999+1;", 9999);
    price("price 2+3*4-1;", 13);
    price("price 20-3-4;", 13);
    price("price 7/2*2;", 6);
    price("price 100-(1);", 100);
    price("price 10+0-7/2;", 7);
    price("price worth-107*1/2;", 47);
    price("price thing*5+worth+wears+week+cries+rival+credit+home+last;", 180);
    price("price 9999*9999*9999/9999;", 9999 * 9999 * 9999 / 9999 < 1 ? 1 : 9999);
    price("price 1-8/3*2+20;", 17);
    price("price 5 when 0-7/2=0-3;price 6;", 5);
    price("price 5 when 0-7*1/2*2=0-6;price 6;", 5);
    price("price 5 when 1=2;price 6 when 1<2;price 7;", 6);
    price("price 5 when 1=2;", 100);
    price("price 5 when 1=1 or 1=1 and 1=2;price 6;", 5);
    price("price 5 when (1=1 or 1=1) and 1=2;price 6;", 6);
    price("price 5 when not 1=1 or 1=1;price 6;", 5);
    price("price 5 when not(1=1 or 1=1);price 6;", 6);
    price("price 5 when not 1=2 and 1=2;price 6;", 6);
    price("price 5 when not not 2>1;price 6;", 5);
    price("price 5 when 1=2 or 1=2 or 1=1;price 6;", 5);
    price("price 5 when 1=1 and 1=1 and 1=2;price 6;", 6);
    price("price 5 when 1=2 and 1=1;price 6;", 6);
    price("price 5 when 1=1 and 1=1;price 6;", 5);
    price("price 5 when 1=2 and 1=1 or 1=3 and 4>3 or 2=3;price 6;", 6);
    price("price 7/1;", 7);
    price("price 0-worth when 1=2;price worth/9999*5+4;", 4);
    price(Check.times("price 5 when 1=2;", 15) + "price 1+1+wears;", 19);
    price("price 1 when " + Check.times("(1=1 and(1=2 or ", 4) + "2<3" + Check.times("))", 4) + ";price 2;", 1);
    price("price 5 when 1=2 and 1=1 or 3=3 and 4>3;price 6;", 5);
    // as much as ever waits at once: an or and an and at each of the nine levels, then a sum of a product
    String deepest = Check.times("1=2 or 1=1 and(", 8) + "1=2 or 1=1 and 1+2*3=1+2*";
    price("price 5 when " + deepest + "3" + Check.times(")", 8) + ";price 6;", 5);
    price("price 5 when " + deepest + "4" + Check.times(")", 8) + ";price 6;", 6);
    price("price 5 when " + Check.times("1=1 or 1=1 and(", 8) + "2=1" + Check.times(")", 8) + ";price 6;", 5);
    price("price 5 when 2<2;price 6 when 2>2;price 7 when 2=2;", 7);
    price("price 5 when 9999*9999*9999*9999<0;price 6;", 9999 * 9999 * 9999 * 9999 < 0 ? 5 : 6);
  }
}
