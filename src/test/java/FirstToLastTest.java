/**
 * The document from its first line to its last: what its sentences say of one another. In what order the parts of a WEEK
 * go, what a LAW is given at each of them, what a PLAN's deeds leave for the next, what a thought takes as it is now and
 * what as it would be then, and what each thing that was undone or gone back to leaves for every other question.
 */
public final class FirstToLastTest {
  private static final int FIRST = 1013904223;
  private static final Check c = new Check();

  public static void main(String[] args) {
    whatItIs();
    manyCalls();
    drawWithoutSign();
    himIsTheLast();
    wordsOfEachText();
    signsAndWordsAnywhere();
    firstFaultByPlace();
    lawsAreAskedAnew();
    wearAsksForEach();
    weekInItsOrder();
    drawsInTheirOrder();
    weekByWeek();
    planDeedByDeed();
    planWithDraws();
    bookInItsOrder();
    leastNowAndThen();
    leastFirstWay();
    leastByChain();
    leastByPasses();
    ordersAsTheyAreLeft();
    fitsAndKeptAsItIs();
    lettersAndThings();
    sightsAsTimeGoes();
    lastsInThought();
    hitAsItIs();
    undoLeavesNothing();
    toldIsNotUndone();
    imageAndThings();
    imageAndAll();
    c.finish();
  }

  /** Every thing in turn, by the law's order, he himself last. */
  private static void whatItIs() {
    c.part("Ransom by the piece");
    RansomPieces x = new RansomPieces();
    c.due("a ring", x.thing(40), 0);
    c.due("a cloak", x.thing(25), 1);
    c.due("a letter", x.thing(5), 2);
    c.due("he himself", x.thing(300), 3);
    c.due("GOLD", x.set(0, 0, 600), true);
    c.due("CREDIT", x.set(1, 0, 12), true);
    c.due("THAW", x.set(5, 0, 6), true);
    c.sound(x, 0, "price worth+week*5+cries when home<3;price worth-last;", 2);
    c.sound(x, 1, "wear 1+thing;eat 2;", 2);
    c.sound(x, 2, "pass 0 from 0 to 2 mud 3;pass 1 from 2 to 6 mud 1;cave 4 by 0;cave 4 by 1;cave 6 by 1;", 5);
    c.sound(x, 3, "0 after 2;", 1);
    c.sound(x, 4, "pay 2 by 0;cry 3;wait 1;pay 1 by 0;wait 2;pay 0 by 1;wait 1;pay 3 by 1;", 8);
    c.due("LEAST: the ring ahead of him, whose PRICE is less by it", x.least(0), 25 + (5 + 5) + (40 + 10) + (300 - 40));
    c.due("one WEEK of waiting", x.least(1), 15);
    int[] way = {1, 2, 0, 3, -1, -1, -1};
    for (int i = 0; i < way.length; i++) {
      c.due("least(" + (10 + i) + ")", x.least(10 + i), way[i]);
    }
    c.due("orders", x.orders(0), 3);
    c.due("CREDIT lasts", x.lasts(), 6);
    c.due("all deeds are done", x.goes(), 8);
    c.due("all are HOME", x.look(1), 15);
    c.due("WEEK", x.look(2), 4);
    c.due("PAID", x.of(2, 3), 5);
    c.due("PAID a WEEK on, by 2 CRIES", x.of(1, 3), 25 + 5 + 2);
    c.due("PAID two WEEKS on, by none", x.of(0, 3), 40 + 15);
    c.due("PAID for him", x.of(3, 3), 260);
    c.due("GOLD", x.look(3), 600 - 5 - 32 - 55 - 260);
    c.due("CREDIT", x.look(4), 4);
    int[] wear = {3, 2, 0, 16};
    for (int i = 0; i < 4; i++) {
      c.due("WEAR of " + i, x.of(i, 1), wear[i]);
    }
    c.due("kept", x.kept(), 16);
    c.due("THE BOOK", x.look(7), 5);
    c.due("nothing is left to pay", x.least(0), 0);
    c.due("no other THING", x.thing(1), -1);
    c.due("all undone", x.undo(), true);
    c.due("GOLD", x.look(3), 600);
    c.due("as it was", x.least(0), 345);
  }

  /** Whatever is held inside wraps round many times in so many calls. */
  private static void manyCalls() {
    c.part("An object is used for at most 512 calls");
    RansomPieces x = new RansomPieces();
    x.thing(10);
    x.set(2, 0, 50);
    for (int i = 0; i < 84; i++) {
      c.due("cry(1)", x.cry(1), 51);
      c.due("cry(2)", x.cry(2), 53);
      c.due("undo()", x.undo(), true);
      c.due("undo()", x.undo(), true);
      c.due("undo()", x.undo(), false);
      c.due("least(0)", x.least(0), -1);
    }
    c.due("look(5)", x.look(5), 50);
    c.due("look(7)", x.look(7), 0);
    c.due("cry(3)", x.cry(3), 53);
    c.due("book(0, 2), the 510th call", x.book(0, 2), 3);
    RansomPieces y = Check.with(10);
    for (int i = 0; i < 72; i++) {
      c.due("a law", Check.tell(y, 0, i % 2 == 0 ? "price 3; price 4; price 5; price 6;" : "price 4;"), i % 2 == 0 ? 4 : 1);
      c.due("PRICE", y.of(0, 5), i % 2 == 0 ? 3 : 4);
    }
  }

  private static void drawWithoutSign() {
    c.part("its highest 24 bits (without sign)");
    int toMinusOne = 653637408;
    RansomPieces x = Check.with(1, 2);
    x.set(3, 0, 215);
    x.state(toMinusOne);
    c.due("16777215 is 215 by 1000", x.weeks(1), 0);
    c.due("STATE", x.look(8), -1);
    x.state(toMinusOne);
    x.set(3, 0, 216);
    c.due("below 216", x.weeks(1), 1);
    RansomPieces y = new RansomPieces();
    Check.tell(y, 1, "eat 0;gain 1;");
    y.set(1, 0, 5);
    y.set(4, 0, 15);
    y.state(toMinusOne);
    y.weeks(1);
    c.due("16777215 is 15 by 100", y.look(4), 5);
    y.set(4, 0, 16);
    y.state(toMinusOne);
    y.weeks(1);
    c.due("CARDS above it", y.look(4), 6);
  }

  private static void himIsTheLast() {
    c.part("HIM: the last THING that came into being");
    RansomPieces x = Check.open(1, 2);
    x.set(3, 0, 1000);
    x.weeks(2);
    c.due("HIM is never the RIVAL's", x.of(1, 2), 0);
    c.due("one more", x.thing(3), 2);
    c.due("no longer HIM", x.weeks(1), 1);
    c.due("with the RIVAL", x.of(1, 2), 2);
    c.due("may COME", x.of(1, 6), 1);
    c.due("HIM may not", x.of(2, 6), 0);
    c.due("orders", x.orders(0), 2);
    c.due("hit: but HIM is none HELD", x.hit(0), -1);
    x.set(3, 0, 0);
    c.due("and one more", x.thing(4), 3);
    c.due("hit: what was HIM", x.hit(0), 2);
    c.due("orders", x.orders(0), 6);
    RansomPieces y = Check.open(7);
    c.due("HIM alone may COME", y.of(0, 6), 1);
    c.due("HIM alone", y.orders(0), 1);
    y.thing(8);
    y.pay(0, 0);
    y.weeks(1);
    y.thing(9);
    c.due("he was HIM: paid for ahead of the new one", y.pay(1, 0), 8);
    y.weeks(1);
    c.due("HIM", y.pay(2, 0), 9);
    c.due("HIM is HOME", y.thing(1), -1);
    c.due("undone", y.undo(), true);
    c.due("HIM is not HOME", y.thing(1), 3);
  }

  private static final String[] LAWS = {"when", "or", "and", "not", "thing", "worth", "wears", "week", "cries", "rival", "credit"};
  private static final String[][] OWN = {
    {"price", "home", "last"}, {"wear", "eat", "gain"}, {"pass", "from", "to", "mud", "cave", "by"}, {"after"},
    {"pay", "by", "cry", "wait", "again"}};
  private static final String[] FORM = {"price 1;", "wear 1;", "cave 1 by 1;", "0 after 1;", "cry 1;"};

  private static boolean isWordOf(int k, String word) {
    boolean found = false;
    for (String one : OWN[k]) {
      found |= one.equals(word);
    }
    for (String one : LAWS) {
      found |= k < 2 && one.equals(word);
    }
    return found;
  }

  /** A word that is not the text's can't stand where the text's own first word may, nor behind a whole line. */
  private static void wordsOfEachText() {
    c.part("KEYWORDS (those told here for that text) or none");
    for (int k = 0; k < 5; k++) {
      RansomPieces x = Check.with(5, 6);
      for (int other = 0; other < 6; other++) {
        for (String word : other < 5 ? OWN[other] : LAWS) {
          if (!isWordOf(k, word)) {
            c.faulty(x, k, word + " 1;", 1, 0);
          }
        }
      }
      c.faulty(x, k, FORM[k] + "end", 1, FORM[k].length());
    }
    for (int k = 0; k < 2; k++) {
      RansomPieces x = Check.with(5, 6);
      for (String word : LAWS) {
        boolean value = !"when or and not".contains(word);
        String law = OWN[k][0] + " " + word + ";";
        if (value) {
          c.sound(x, k, law, 1);
          c.faulty(x, k, OWN[k][0] + " " + word + "s;", 1, OWN[k][0].length() + 1);
          c.faulty(x, k, OWN[k][0] + " 1/" + word + ";", 1, OWN[k][0].length() + 3);
        } else {
          c.faulty(x, k, law, 1, OWN[k][0].length() + 1);
        }
      }
      c.due("no FAULT is taken for the text", x.look(9 + k), 1);
    }
  }

  private static void signsAndWordsAnywhere() {
    c.part("Blanks (32, 10) between");
    RansomPieces x = Check.with(50, 60);
    c.sound(x, 0, "price1+2*3/2when(1<2)and not(worth=5)or 3>4;", 1);
    c.due("without a blank", x.of(0, 5), 4);
    c.sound(x, 0, "\nprice\n1\n+\n2\n*\n3\n/\n2\nwhen\n(\n1\n<\n2\n)\n;\n", 1);
    c.due("with one at each place", x.of(0, 5), 4);
    c.sound(x, 2, "pass0from0to9mud1;cave0by0;", 2);
    c.sound(x, 3, "1after0;", 1);
    c.sound(x, 4, "pay0by0;again2(wait1;cry2;)", 5);
    c.faulty(x, 3, "1after00000;", 1, 6);
    c.sound(x, 3, "0001after0000;", 1);
    c.faulty(x, 0, "price 1 2;", 1, 8);
    c.faulty(x, 0, "price wor th;", 1, 6);
    c.faulty(x, 0, "pri ce 1;", 1, 0);
    c.faulty(x, 0, "price 1" + (char) 13 + ";", 1, 7);
    c.faulty(x, 0, "price 1" + (char) 160 + ";", 1, 7);
    c.faulty(x, 0, "price 1_0;", 1, 7);
    c.faulty(x, 0, "price 1.0;", 1, 7);
    c.due("what it is yet", x.of(0, 5), 4);
  }

  private static void firstFaultByPlace() {
    c.part("FAULTS, the first by its place, at one place the least");
    RansomPieces x = Check.with(5, 6);
    c.faultAt(x, 0, 2, "price 1/@0;;");
    c.faultAt(x, 0, 1, "price 1;@;price 1/0;");
    c.faultAt(x, 0, 3, "price 1 when ((((((((@(1/0=1;");
    c.faultAt(x, 0, 2, "price 1 when 1/@0=1 and ((((((((((1=1;");
    c.faultAt(x, 1, 1, "wear @;gain 1/0;");
    c.faultAt(x, 2, 2, "pass @6 from 5 to 4 mud 9;hill");
    c.faultAt(x, 2, 2, "pass 5 from 5 to @4 mud 9;hill");
    c.faultAt(x, 2, 1, "pass 5 from 4 to 5 @by 9;");
    c.faultAt(x, 3, 2, "0 after @0 9;");
    c.faultAt(x, 3, 2, "0 after 1 @9 0;");
    c.faultAt(x, 3, 1, "0 after 1@+9;");
    c.faultAt(x, 4, 2, "again 9(again 9(cry 1;)) cry @99;");
    c.faultAt(x, 4, 1, "again 9(again 9(cry 1;)@");
    c.faultAt(x, 4, 4, "again 9(again 9(cry 1;)) \n @");
  }

  private static void lawsAreAskedAnew() {
    c.part("PRICE of a THING: .. worth; wears: its WEAR; week: WEEK; home ..; cries: CRIES; last ..; credit: CREDIT");
    RansomPieces x = Check.open(20, 30, 40);
    Check.tell(x, 0, "price thing*1000+worth;");
    c.due("thing, worth of each", x.of(1, 5), 1030);
    x.set(6, 1, 31);
    c.due("WORTH told anew", x.of(1, 5), 1031);
    Check.tell(x, 0, "price wears+1;");
    x.weeks(2);
    x.set(7, 2, 60);
    c.due("WEAR by WEEKS", x.of(0, 5), 3);
    c.due("WEAR told", x.of(2, 5), 61);
    Check.tell(x, 0, "price week*100+cries*10+credit;");
    x.cry(4);
    x.set(1, 0, 6);
    c.due("week, cries, credit", x.of(0, 5), 246);
    x.weeks(1);
    c.due("a WEEK on", x.of(0, 5), 335);
    Check.tell(x, 0, "price last when home=1;price home;");
    c.due("none HOME", x.of(0, 5), 1);
    x.pay(1, 0);
    c.due("LAST's WORTH", x.of(0, 5), 31);
    x.weeks(1);
    x.pay(0, 0);
    c.due("two HOME", x.of(2, 5), 2);
    c.due("LAST is the latest", x.look(6), 0);
    x.undo();
    c.due("LAST goes back", x.of(0, 5), 31);
  }

  private static int wear(String law, int thing) {
    RansomPieces x = Check.with(3, 14, 9);
    x.set(1, 0, 8);
    x.set(2, 0, 5);
    x.set(3, 0, 1000);
    x.set(7, 1, 6);
    x.weeks(1);
    x.set(3, 0, 0);
    int was = x.of(thing, 1);
    Check.tell(x, 1, law);
    x.weeks(1);
    return x.of(thing, 1) - was;
  }

  /** WEEK 1, CREDIT 7, CRIES 4 then; 0 is with the RIVAL; WEARS are 1, 7, 1. */
  private static void wearAsksForEach() {
    c.part("(a) THING by THING that is not HOME: WEAR is wear more");
    c.due("thing", wear("wear thing;", 0), 0);
    c.due("thing", wear("wear thing;", 2), 2);
    c.due("worth", wear("wear worth;", 1), 14);
    c.due("worth", wear("wear worth;", 2), 9);
    c.due("wears", wear("wear wears;", 1), 7);
    c.due("wears", wear("wear wears;", 2), 1);
    c.due("week", wear("wear week+10;", 2), 11);
    c.due("cries", wear("wear cries;", 2), 4);
    c.due("rival", wear("wear rival+1;", 0), 2);
    c.due("rival", wear("wear rival+1;", 1), 1);
    c.due("credit", wear("wear credit;", 1), 7);
    c.due("the first line whose B is so", wear("eat 4;wear 5 when worth<10;gain 1;wear 6 when worth<20;wear 7;", 0), 5);
    c.due("the first line whose B is so", wear("eat 4;wear 5 when worth<10;gain 1;wear 6 when worth<20;wear 7;", 1), 6);
    c.due("none whose B is so", wear("eat 4;wear 5 when worth>20;gain 9;", 1), 1);
    c.due("a line behind one that has no B", wear("wear 3;wear 9 when 1=1;", 1), 3);
  }

  private static void weekInItsOrder() {
    c.part("A WEEK. (a) .. (e)");
    RansomPieces x = Check.with(1, 2, 3);
    x.set(1, 0, 50);
    x.set(2, 0, 4);
    x.set(3, 0, 1000);
    Check.tell(x, 1, "wear credit-40+rival*5+cries+week;eat cries+credit/10+week*20;");
    x.weeks(1);
    c.due("(a) ahead of (b), (c), (d)", x.of(0, 1), 14);
    c.due("(b) by CREDIT and CRIES as they were", x.look(4), 50 - 4 - 5);
    c.due("(c)", x.of(0, 2), 2);
    c.due("(d)", x.look(5), 3);
    c.due("(e)", x.look(2), 1);
    c.due("(c) ahead of (e) in THE BOOK", x.book(0, 0), 0);
    x.weeks(1);
    c.due("the RIVAL had it", x.of(0, 1), 14 + 1 + 5 + 3 + 1);
    c.due("HIM", x.of(2, 1), 14 + 1 + 3 + 1);
    c.due("eat", x.look(4), 41 - 3 - 4 - 20);
    RansomPieces y = new RansomPieces();
    y.set(1, 0, 100);
    y.set(2, 0, 9);
    y.set(4, 0, 99);
    Check.tell(y, 1, "eat credit/2;gain credit-40+cries+week;");
    y.weeks(1);
    c.due("gain by CREDIT when it has been eaten of, CRIES ahead of (d)", y.look(4), 50 + 10 + 9);
    y.state(0);
    y.weeks(1);
    c.due("gain by WEEK ahead of (e)", y.look(4), 69 - 34 + 4);
    y.state(0);
    Check.tell(y, 1, "eat 98;gain 50;");
    y.weeks(1);
    c.due("nothing is gained on no CREDIT", y.look(4), 0);
    c.due("and nothing drawn", y.look(8), 0);
  }

  /** From 0 the DRAWS are 3960563, 4673577, 13749494, 11204947. */
  private static void drawsInTheirOrder() {
    c.part("(b) .. a DRAW of 100, (c) .. a DRAW of 1000");
    RansomPieces x = Check.with(1, 2, 3);
    Check.tell(x, 1, "eat 0;gain 1;");
    x.set(1, 0, 10);
    x.set(4, 0, 64);
    x.set(3, 0, 577);
    c.due("CARDS have 63, the RIVAL 577", x.weeks(1), 0);
    c.due("CREDIT", x.look(4), 11);
    c.due("two DRAWS", x.look(8), 1196435762);
    c.due("CARDS have 94, the RIVAL 947", x.weeks(1), 0);
    c.due("CREDIT", x.look(4), 11);
    x.state(0);
    x.set(4, 0, 63);
    x.set(3, 0, 578);
    c.due("CARDS have 63, the RIVAL 577", x.weeks(1), 1);
    c.due("CREDIT", x.look(4), 11);
    x.state(0);
    x.set(4, 0, 0);
    x.set(3, 0, 564);
    c.due("without CARDS the RIVAL has 563", x.weeks(1), 1);
    c.due("one DRAW", x.look(8), FIRST);
  }

  private static void weekByWeek() {
    c.part("WEEKS go by: how many THINGS the RIVAL took");
    RansomPieces once = Check.with(1, 2, 3, 4, 5, 6, 7, 8);
    RansomPieces each = Check.with(1, 2, 3, 4, 5, 6, 7, 8);
    for (RansomPieces x : new RansomPieces[] {once, each}) {
      x.set(1, 0, 60);
      x.set(2, 0, 6);
      x.set(3, 0, 500);
      x.set(4, 0, 50);
      Check.tell(x, 1, "wear week+rival;eat cries+1;gain 7;");
    }
    int took = 0;
    for (int i = 0; i < 9; i++) {
      took += each.weeks(1);
    }
    c.due("all at once", once.weeks(9), took);
    for (int i = 1; i < 9; i++) {
      c.due("look(" + i + ")", once.look(i), each.look(i));
    }
    for (int i = 0; i < 8; i++) {
      c.due("WEAR", once.of(i, 1), each.of(i, 1));
      c.due("HOW", once.of(i, 2), each.of(i, 2));
      c.due("THE BOOK", once.book(i, 0), each.book(i, 0));
    }
    c.due("as many as THE BOOK has", once.look(7), took);
    c.due("by the DRAWS from 0: some, not all", took > 1 && took < 7, true);
  }

  private static void planDeedByDeed() {
    c.part("A PLAN goes deed by deed: pay, cry: if it can be, else it is left out");
    RansomPieces x = Check.open(10, 20, 30, 40);
    Check.tell(x, 0, "price worth+last+cries+home*100+week*1000;");
    x.set(0, 0, 3300);
    Check.tell(x, 4, "cry 5;pay 3 by 0;pay 1 by 1;pay 1 by 0;pay 0 by 0;wait 1;pay 0 by 0;wait 1;pay 2 by 0;cry 1;");
    c.due("deeds", x.goes(), 6);
    c.due("by CRIES of the deed ahead", x.of(1, 3), 25);
    c.due("by LAST, HOME and WEEK then", x.of(0, 3), 10 + 20 + 4 + 100 + 1000);
    c.due("not for 30 + 10 + 3 + 200 + 2000", x.of(2, 2), 0);
    c.due("GOLD", x.look(3), 3300 - 25 - 1134);
    x.undo();
    x.set(0, 0, 3402);
    c.due("just enough", x.goes(), 7);
    c.due("GOLD", x.look(3), 0);
    c.due("gone again: the CRIES and WAITS alone", x.goes(), 4);
    c.due("WEEK", x.look(2), 4);
    c.due("THE BOOK", x.look(7), 5 + 2);
  }

  private static void planWithDraws() {
    c.part("wait: so many WEEKS (60 at most: then no more)");
    RansomPieces x = Check.open(1, 2, 3, 4);
    RansomPieces y = Check.open(1, 2, 3, 4);
    for (RansomPieces one : new RansomPieces[] {x, y}) {
      one.set(3, 0, 600);
      one.set(1, 0, 40);
      one.set(4, 0, 70);
      Check.tell(one, 1, "gain 3;");
      Check.tell(one, 4, "wait 3;again 2(wait 2;cry 2;)");
    }
    c.due("deeds", x.goes(), 5);
    y.weeks(3);
    y.weeks(2);
    y.cry(2);
    y.weeks(2);
    y.cry(2);
    for (int i = 1; i < 9; i++) {
      c.due("look(" + i + ")", x.look(i), y.look(i));
    }
    RansomPieces z = Check.open(1, 2);
    z.weeks(20);
    z.weeks(20);
    z.weeks(17);
    Check.tell(z, 4, "wait 2;wait 2;pay 0 by 0;wait 2;cry 1;");
    c.due("two waits, a PAYING, a CRY", z.goes(), 4);
    c.due("WEEK", z.look(2), 60);
    c.due("WEAR: three WEEKS more", z.of(1, 1), 60);
    c.due("THE BOOK in WEEK 60", z.book(0, 0), 60);
    z.undo();
    c.due("all of it goes back", z.look(2), 57);
    c.due("all of it goes back", z.of(0, 1), 57);
  }

  private static void bookInItsOrder() {
    c.part("THE BOOK: WEEK, what, the THING (cried: n), PRICE (else 0), PASS (else NONE)");
    RansomPieces x = Check.open(10, 20, 30, 40);
    Check.tell(x, 2, "pass 0 from 0 to 60 mud 0;pass 3 from 1 to 60 mud 0;");
    x.set(3, 0, 1000);
    x.pay(2, 0);
    x.cry(20);
    x.cry(20);
    x.weeks(2);
    x.pay(0, 3);
    int[][] due = {{0, 0, 2, 30, 0}, {0, 1, 20, 0, -1}, {0, 1, 20, 0, -1}, {0, 2, 0, 0, -1}, {1, 2, 1, 0, -1}, {2, 0, 0, 10, 3}};
    for (int i = 0; i < due.length; i++) {
      for (int j = 0; j < 5; j++) {
        c.due("book(" + i + ", " + j + ")", x.book(i, j), due[i][j]);
      }
    }
    c.due("no line more", x.book(6, 0), -2);
    x.set(2, 0, 95);
    x.cry(9);
    c.due("cried: n, not by how much CRIES are more", x.book(6, 2), 9);
    x.undo();
    c.due("its line goes back", x.book(6, 2), -2);
  }

  private static void leastNowAndThen() {
    c.part("week, home, last as they would be then, all else that PRICES ask as it is now");
    RansomPieces x = Check.open(10, 20, 30);
    x.set(3, 0, 1000);
    x.weeks(1);
    x.set(3, 0, 0);
    x.set(1, 0, 3);
    x.set(2, 0, 2);
    Check.tell(x, 1, "wear 9;eat 1;");
    Check.tell(x, 0, "price wears+10*credit+100*cries+1000*rival;");
    c.due("WEAR 1, CREDIT 3, CRIES 2 each, the RIVAL's one", x.least(0), 3 * 231 + 1000);
    Check.tell(x, 0, "price week;");
    c.due("WEEKS 1, 2, 3", x.least(0), 6);
    c.due("WEEKS 2, 3, 4", x.least(1), 3);
    Check.tell(x, 0, "price home*100+last;");
    c.due("0 held to 1, 110, 220 by 0, 1; or 120, 210 by 1, 0", x.least(0), 1 + 110 + 220);
    x.set(6, 0, 99);
    c.due("1 ahead of 0: 1, 120, 299; 0 ahead of 1: 1, 199, 220", x.least(0), 420);
    c.due("of both the first", x.least(10), 0);
    x.pay(1, 0);
    c.due("LAST as it is at first", x.least(0), 120 + 299);
    c.due("none in this WEEK", x.least(10), -1);
    c.due("0 in the next", x.least(11), 0);
    c.due("HIM then", x.least(12), 2);
    c.due("waiting costs nothing then", x.least(1), 0);
    x.set(0, 0, 0);
    c.due("GOLD not asked", x.least(0), 419);
    c.due("nothing of it stays", x.look(1), 2);
  }

  private static void leastFirstWay() {
    c.part("of several ways the first (WEEK by WEEK: the lesser THING, none last)");
    RansomPieces x = Check.open(5, 5, 5);
    x.set(5, 0, 4);
    way(x, 0, 1, 2, -1, -1);
    Check.tell(x, 0, "price 7 when week=0;price 3;");
    way(x, -1, 0, 1, 2, -1);
    c.due("waiting costs nothing", x.least(1), 0);
    Check.tell(x, 0, "price 1 when thing=1 and home=0;price 1 when thing=0 and home=1;price 2;");
    way(x, 1, 0, 2, -1, -1);
    Check.tell(x, 0, "price 9 when week<2 and thing=0;price 4;");
    way(x, 1, -1, 0, 2, -1);
    c.due("the sum", x.least(0), 12);
    Check.tell(x, 0, "price 9 when week<3 and thing=0;price 4 when week<4;price 5;");
    c.due("0 in WEEK 3, HIM in WEEK 4", x.least(0), 13);
    way(x, 1, -1, -1, 0, 2);
    Check.tell(x, 3, "1 after 0;");
    c.due("0 in WEEK 2 for 9 at the latest", x.least(0), 4 + 4 + 9);
    way(x, 0, 1, 2, -1, -1);
  }

  private static void way(RansomPieces x, int... due) {
    for (int i = 0; i < due.length; i++) {
      c.due("least(" + (10 + i) + ")", x.least(10 + i), due[i]);
    }
    c.due("behind THAW", x.least(10 + due.length), -1);
  }

  /** Each LAST makes but one other cheap, so that the way goes by all of them, with WEEKS of waiting in between. */
  private static void leastByChain() {
    c.part("last as it would be then, whichever THING that is");
    RansomPieces x = Check.open(10, 20, 30, 40, 50, 60, 70, 80);
    x.set(5, 0, 9);
    Check.tell(x, 0, "price 1 when last+10=worth;price 50;");
    c.due("up", x.least(0), 8);
    way(x, 0, 1, 2, 3, 4, 5, 6, 7, -1, -1);
    Check.tell(x, 0, "price 1 when last=worth+10;price 1 when thing=7;price 50;");
    c.due("down", x.least(0), 50 + 7);
    way(x, 6, 5, 4, 3, 2, 1, 0, 7, -1, -1);
    Check.tell(x, 2, "pass 0 from 0 to 1 mud 0;pass 1 from 3 to 4 mud 0;pass 0 from 6 to 9 mud 0;");
    c.due("by the PASSES", x.least(0), 50 + 7);
    way(x, 6, 5, -1, 4, 3, -1, 2, 1, 0, 7);
    c.due("no WEEK is to spare", x.least(1), -1);
    Check.tell(x, 2, "pass 0 from 0 to 60 mud 0;");
    Check.tell(x, 0, "price 50 when week=2 or week=6;price 1 when last=worth+10;price 1 when thing=7;price 40;");
    c.due("but in WEEKS 2 and 6", x.least(0), 40 + 7);
    way(x, 6, 5, -1, 4, 3, 2, -1, 1, 0, 7);
    x.pay(6, 0);
    x.weeks(1);
    x.pay(4, 0);
    x.weeks(2);
    c.due("LAST is 4: 3 2 1, none in WEEK 6, 0, then 5 for 40 and HIM", x.least(0), 4 + 40 + 1);
    way(x, 3, 2, 1, -1, 0, 5, 7);
  }

  private static void leastByPasses() {
    c.part("by PASSES that are open (any)");
    RansomPieces x = Check.with(5, 6);
    x.set(5, 0, 6);
    c.due("none is open", x.least(0), -1);
    Check.tell(x, 2, "pass 3 from 1 to 1 mud 0;pass 5 from 4 to 4 mud 5;cave 0 by 0;");
    c.due("by two of them", x.least(0), 11);
    way(x, -1, 0, -1, -1, 1, -1, -1);
    x.set(5, 0, 4);
    c.due("THAW is the last WEEK", x.least(0), 11);
    x.set(5, 0, 3);
    c.due("too early", x.least(0), -1);
    c.due("no WEEK of it", x.least(11), -1);
    Check.tell(x, 2, "pass 3 from 1 to 1 mud 0;pass 2 from 1 to 1 mud 0;");
    c.due("two PASSES in one WEEK", x.least(0), -1);
    Check.tell(x, 2, "pass 3 from 0 to 1 mud 0;");
    c.due("both WEEKS", x.least(0), 11);
    c.due("no waiting", x.least(1), -1);
  }

  private static void ordersAsTheyAreLeft() {
    c.part("in how many orders all that are not HOME can come, by AFTER and HIM");
    RansomPieces x = Check.open(1, 2, 3, 4, 5);
    Check.tell(x, 3, "0 after 3;1 after 3;2 after 1;");
    c.due("3, then 0 and 1 2 in three ways", x.orders(0), 3);
    list(x, 3, 0, 1, 2, 4, -1);
    x.set(3, 0, 1000);
    x.weeks(1);
    c.due("with the RIVAL it comes too", x.orders(0), 3);
    x.set(3, 0, 0);
    x.pay(3, 0);
    c.due("3 is HOME, in this WEEK too", x.orders(0), 3);
    list(x, 0, 1, 2, 4, -1);
    Check.tell(x, 3, "3 after 0 1 2;0 after 1;");
    c.due("what is HOME does not wait", x.orders(0), 3);
    list(x, 1, 0, 2, 4, -1);
    Check.tell(x, 2, "");
    x.set(0, 0, 0);
    c.due("PASSES, GOLD are not asked", x.orders(0), 3);
  }

  private static void list(RansomPieces x, int... due) {
    for (int i = 0; i < due.length; i++) {
      c.due("orders(" + (10 + i) + ")", x.orders(10 + i), due[i]);
    }
  }

  private static void fitsAndKeptAsItIs() {
    c.part("FITS, KEPT");
    RansomPieces x = Check.open(1, 2, 3);
    Check.tell(x, 2, "pass 0 from 0 to 9 mud 2;pass 1 from 5 to 9 mud 2;pass 1 from 4 to 9 mud 3;cave 1 by 0;cave 2 by 1;cave 2 by 0;cave 1 by 0;");
    x.set(3, 0, 1000);
    x.weeks(4);
    c.due("WEAR 4 of all, the RIVAL's too", x.fits(4, 4, 0, 2), 7);
    c.due("MUD 3 in WEEK 4 alone", x.fits(4, 4, 4, 3), 7);
    c.due("MUD 2 is PASS 1's in WEEK 5", x.fits(4, 4, 5, 3), 0);
    c.due("a CAVE told twice", x.kept(), 6);
    x.pay(0, 0);
    c.due("but what is HOME", x.fits(4, 4, 0, 2), 6);
    c.due("by PASS 0", x.kept(), 6);
    x.weeks(1);
    x.pay(1, 1);
    c.due("by PASS 1 too", x.kept(), 4);
    x.undo();
    c.due("undone", x.kept(), 6);
    c.due("undone", x.fits(5, 5, 0, 2), 6);
    x.undo();
    c.due("WEAR goes back", x.fits(4, 4, 0, 2), 6);
    Check.tell(x, 2, "cave 7 by 0;cave 0 by 4;");
    c.due("THE HILLS told anew", x.kept(), 128);
  }

  private static void lettersAndThings() {
    c.part("LETTERS: each a set of THINGS that he says he has yet");
    RansomPieces x = new RansomPieces();
    c.due("no THING yet", x.letter(1), -1);
    c.due("the empty set", x.letter(0), 0);
    x.thing(5);
    c.due("THING 1 is not yet", x.letter(2), -1);
    c.due("THING 0", x.letter(1), 1);
    x.thing(6);
    c.due("both", x.letter(3), 2);
    c.due("in one order", x.letters(0), 1);
    c.due("the greatest first", x.letters(10), 2);
    c.due("then", x.letters(11), 1);
    c.due("the empty one last", x.letters(12), 0);
    c.due("AFTER, HOW are not asked", Check.tell(x, 3, "0 after 1;"), 1);
    c.due("AFTER, HOW are not asked", x.letters(0), 1);
    c.due("not within one another", x.letter(2), 3);
    c.due("in none", x.letters(0), 0);
  }

  private static void sightsAsTimeGoes() {
    c.part("FALSE: .. or with a greater one than now in a WEEK that is behind or this one");
    RansomPieces x = Check.open(1, 2, 3);
    x.sight(0, 3, 2);
    c.due("WEEK 3 is not yet", x.wrong(), 0);
    x.set(7, 0, 1);
    Check.tell(x, 1, "wear 0;");
    x.weeks(2);
    c.due("WEEK 2", x.wrong(), 0);
    x.weeks(1);
    c.due("WEEK 3, WEAR 1", x.wrong(), 1);
    x.weeks(1);
    c.due("WEEK 4", x.wrong(), 1);
    x.undo();
    x.undo();
    c.due("WEEK 2 again", x.wrong(), 0);
    Check.tell(x, 1, "wear 1;");
    x.weeks(1);
    c.due("WEEK 3, WEAR 2", x.wrong(), 0);
    x.sight(1, 1, 0);
    x.sight(1, 2, 0);
    x.sight(1, 9, 99);
    c.due("never less, later more", x.wrong(), 0);
    x.pay(1, 0);
    x.weeks(20);
    c.due("HOME it wears no more: 1 in WEEK 23 is less than 99 in 9", x.wrong(), 2);
    x.sight(-1, 0, 0);
    x.sight(0, 40, 50);
    x.sight(1, 41, 20);
    c.due("each THING for itself", x.wrong(), 0);
  }

  private static void lastsInThought() {
    c.part("CREDIT lasts (no DRAWS: no gain)");
    RansomPieces x = Check.with(4, 5);
    x.set(1, 0, 20);
    x.set(4, 0, 99);
    x.set(3, 0, 1000);
    Check.tell(x, 1, "eat 7 when credit>10;eat 2;gain 99;");
    c.due("7 7 2 2 2", x.lasts(), 5);
    c.due("nothing of it stays", x.look(4), 20);
    c.due("no DRAW", x.look(8), 0);
    c.due("no RIVAL", x.of(0, 2), 0);
    Check.tell(x, 1, "eat 0 when week<3;eat 10;");
    c.due("three WEEKS of nothing", x.lasts(), 5);
    x.weeks(3);
    c.due("in WEEK 3", x.lasts(), 2);
  }

  private static void hitAsItIs() {
    c.part("HIT: .. were it with the RIVAL now, LEAST would be most; of several the least");
    RansomPieces x = Check.open(10, 20, 20, 5);
    Check.tell(x, 0, "price worth*2 when rival=1;price worth;");
    c.due("1 and 2 alike: the lesser", x.hit(0), 1);
    c.due("LEAST then", x.hit(1), 75);
    x.set(3, 0, 1000);
    x.weeks(1);
    x.set(3, 0, 0);
    c.due("what he has is no more hit", x.hit(0), 1);
    c.due("it counts all the same", x.hit(1), 85);
    x.pay(1, 0);
    c.due("what is HOME neither", x.hit(0), 2);
    c.due("LEAST then", x.hit(1), 20 + 40 + 5);
    Check.tell(x, 0, "price 50 when rival=1;price 90;");
    c.due("though it be less than LEAST", x.hit(1), 50 + 50 + 90);
    c.due("LEAST", x.least(0), 50 + 90 + 90);
    c.due("hit once more", x.hit(0), 2);
    x.undo();
    Check.tell(x, 0, "price week when rival=1 and thing=1;price 9 when rival=1;price 4;");
    c.due("by when it would be paid for", x.hit(0), 2);
    c.due("0 and 2 are the RIVAL's", x.hit(1), 9 + 9 + 4 + 4);
  }

  /** Each deed ahead of an undoing is of another kind, and all that can be asked for is as it was. */
  private static void undoLeavesNothing() {
    c.part("UNDO: the latest PAYING, CRY, WEEK, PLAN done goes back (STATE, THE BOOK, too)");
    for (int deed = 0; deed < 4; deed++) {
      RansomPieces x = ransom();
      RansomPieces twin = ransom();
      switch (deed) {
        case 0: c.due("pay", x.pay(1, 0), 36); break;
        case 1: c.due("cry", x.cry(7), 12); break;
        case 2: c.due("weeks", x.weeks(1), 1); break;
        default: c.due("goes", x.goes(), 5); break;
      }
      c.due("undo()", x.undo(), true);
      c.due("deed " + deed + " leaves nothing", Seen.of(x).equals(Seen.of(twin)), true);
    }
  }

  private static RansomPieces ransom() {
    RansomPieces x = Check.open(10, 20, 30, 40);
    Check.tell(x, 0, "price worth+week+last+cries when home<3;price credit;");
    Check.tell(x, 1, "wear 2;eat 3;gain 50;");
    Check.tell(x, 2, "pass 0 from 0 to 60 mud 1;cave 3 by 0;cave 1 by 2;");
    Check.tell(x, 4, "pay 1 by 0;wait 2;pay 2 by 0;cry 4;wait 1;");
    x.set(1, 0, 70);
    x.set(2, 0, 6);
    x.set(3, 0, 1000);
    x.set(4, 0, 80);
    x.letter(7);
    x.letter(3);
    x.sight(1, 1, 2);
    x.sight(2, 0, 3);
    x.errand(4, 4);
    x.image(true);
    x.pay(0, 0);
    x.weeks(1);
    return x;
  }

  private static void toldIsNotUndone() {
    c.part("whatever else is told but LAWS, LETTERS, SIGHTS, ERRANDS forgets them");
    RansomPieces x = Check.open(10, 20);
    x.weeks(1);
    x.pay(0, 0);
    Check.tell(x, 0, "price 77;");
    Check.tell(x, 1, "wear 5;");
    x.letter(1);
    x.sight(0, 0, 9);
    x.errand(3, 3);
    c.due("both are kept", x.look(17), 2);
    c.due("the PAYING", x.undo(), true);
    c.due("GOLD by what was PAID", x.look(3), 99999);
    c.due("the LAW that was told since stays", x.of(0, 5), 77);
    c.due("the LETTER stays", x.look(14), 1);
    c.due("the SIGHT stays", x.wrong(), 1);
    c.due("the ERRAND stays", x.messengers(1), 3);
    c.due("it is paid for by the LAW that is now", x.pay(0, 0), 77);
    x.weeks(1);
    c.due("and wears by it", x.of(1, 1), 6);
    x.undo();
    x.undo();
    c.due("the first WEEK goes back", x.undo(), true);
    c.due("as it was done, by wear 1", x.of(1, 1), 0);
    c.due("WEEK", x.look(2), 0);
    c.due("no more", x.undo(), false);
    x.cry(1);
    x.set(0, 0, x.look(3));
    c.due("told the same forgets too", x.undo(), false);
    x.cry(1);
    x.state(x.look(8));
    c.due("STATE told the same forgets too", x.undo(), false);
  }

  private static void imageAndThings() {
    c.part("THE IMAGE: THINGS that came since are gone, and come anew as at first");
    RansomPieces x = Check.open(10, 20);
    x.image(true);
    x.thing(30);
    x.thing(40);
    x.set(7, 2, 50);
    Check.tell(x, 3, "0 after 2;3 after 1;");
    x.pay(2, 0);
    x.weeks(2);
    x.letter(15);
    x.sight(2, 1, 1);
    c.due("gone back to", x.image(false), true);
    c.due("THINGS", x.look(0), 2);
    c.due("no THING 2", x.of(2, 0), -2);
    c.due("no LETTER of it", x.letter(4), -1);
    c.due("LETTERS", x.look(14), 0);
    c.due("no SIGHT of it", x.sight(2, 0, 0), -1);
    c.due("nor A PLAN", Check.tell(x, 4, "pay 2 by 0;"), -1);
    c.due("AFTER", x.look(12), 0);
    c.due("HIM", x.orders(11), 1);
    c.due("another", x.thing(60), 2);
    int[] due = {60, 0, 0, 0, -1, 60, 0, 0};
    for (int i = 0; i < due.length; i++) {
      c.due("of(2, " + i + ")", x.of(2, i), due[i]);
    }
    c.due("LAST", x.look(6), -1);
    c.due("fault() stays over it", x.image(false), true);
    c.due("fault() stays over it", x.fault(1), 4);
  }

  private static void imageAndAll() {
    c.part("THE IMAGE: all that is and was told .. as it was when it was taken; gone back to it may be more than once");
    RansomPieces x = ransom();
    RansomPieces twin = ransom();
    c.due("taken", x.image(true), true);
    c.due("taken", twin.image(true), true);
    c.due("twin forgets", twin.image(false), true);
    for (int i = 0; i < 2; i++) {
      x.pay(2, 0);
      x.goes();
      x.weeks(3);
      x.thing(9);
      Check.tell(x, 0, "price 1;");
      Check.tell(x, 1, "");
      Check.tell(x, 2, "cave 5 by 5;");
      Check.tell(x, 3, "0 after 1;");
      Check.tell(x, 4, "");
      x.state(i + 1);
      x.letter(0);
      x.sight(-1, 0, 0);
      x.errand(-1, 0);
      for (int what = 0; what < 8; what++) {
        x.set(what, 2, 33 + i);
      }
      c.due("gone back to", x.image(false), true);
    }
    c.due("all is as it was", Seen.of(x).equals(Seen.of(twin)), true);
  }
}
