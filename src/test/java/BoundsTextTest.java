import java.util.List;
import java.util.Set;

/** The bounds that Terms 2 (TEXTS, TOKENS, FAULTS) and promises 5 to 8 name. */
public final class BoundsTextTest {
  private static final int MIN = Integer.MIN_VALUE;
  private static final int MAX = Integer.MAX_VALUE;
  private static final Check c = new Check();

  public static void main(String[] args) {
    feedOrder();
    feedFull();
    endBounds();
    fullTape();
    textNumbers();
    tapeIsEmptyThen();
    staysAsItWas();
    faultWhat();
    emptyTexts();
    digits();
    blanks();
    letters();
    partByNought();
    hillNumbers();
    afterThings();
    planNumbers();
    lawLines();
    lawsAnew();
    hillLines();
    afterLines();
    openOnes();
    openAgains();
    deeds();
    whatCantStand();
    theEnd();
    firstByPlace();
    leastAtOnePlace();
    c.finish();
  }

  private static RansomPieces three() {
    return Check.with(10, 20, 30);
  }

  // ---- the TAPE

  private static void feedOrder() {
    c.part("5: twenty bytes, of each number the highest first, behind the TAPE");
    RansomPieces x = new RansomPieces();
    for (int place = 0; place < 40; place++) {
      int[] n = new int[10];
      for (int i = 0; i < 40; i++) {
        n[i / 4] = n[i / 4] << 8 | (i == place ? 0xff : 0x20);
      }
      c.due("feed", x.feed(n[0], n[1], n[2], n[3], n[4]), 20);
      c.due("feed", x.feed(n[5], n[6], n[7], n[8], n[9]), 40);
      c.due("text(0)", x.text(0), -1);
      c.due("the byte's place", x.fault(1), place);
    }
  }

  private static RansomPieces taped(int length) {
    RansomPieces x = three();
    StringBuilder text = new StringBuilder("price 7;");
    while (text.length() < 400) {
      text.append(' ');
    }
    Check.feed(x, text.toString());
    x.end(length);
    return x;
  }

  private static void feedFull() {
    c.part("5: NONE, and nothing comes, if there would be more than 400");
    RansomPieces x = new RansomPieces();
    for (int i = 1; i <= 20; i++) {
      c.due("feed", x.feed(0, 0, 0, 0, 0), 20 * i);
    }
    c.due("a 21st", x.feed(0, 0, 0, 0, 0), -1);
    c.due("at 380", taped(380).feed(0, 0, 0, 0, 0), 400);
    c.due("at 379", taped(379).feed(0, 0, 0, 0, 0), 399);
    for (int length : new int[] {381, 390, 399, 400}) {
      c.leaves("feed at " + length, () -> taped(length), y -> y.feed(0x23232323, 0x23232323, MIN, MAX, -1), -1);
      x = taped(length);
      x.feed(0x23232323, 0, 0, 0, 0);
      c.due("as many as there were", x.end(length + 1), false);
      c.due("as many as there were", x.end(length), true);
      c.due("the same text", x.text(0), 1);
    }
  }

  private static void endBounds() {
    c.part("6: its first n bytes alone; false, changing nothing, if it has not so many, or n is below 0");
    for (int n : new int[] {-1, 41, 60, 400, 401, MIN, MAX}) {
      c.leaves("end(" + n + ")", () -> taped(40), y -> y.end(n) ? 1 : 0, 0);
    }
    c.leaves("end(40)", () -> taped(40), y -> y.end(40) ? 1 : 0, 1);
    RansomPieces x = new RansomPieces();
    c.due("end(0) of nothing", x.end(0), true);
    c.due("end(1) of nothing", x.end(1), false);
    c.due("end(-1) of nothing", x.end(-1), false);
    x = taped(400);
    c.due("end(400)", x.end(400), true);
    c.due("end(8)", x.end(8), true);
    c.due("end(9)", x.end(9), false);
    c.due("the first 8 alone", x.feed(0x23232323, 0, 0, 0, 0), 28);
    c.due("end(8)", x.end(8), true);
    c.due("the first 8", x.text(0), 1);
    x = taped(20);
    c.due("end(7)", x.end(7), true);
    c.due("the first 7", x.text(0), -1);
    c.due("their end", x.fault(1), 7);
    x = taped(20);
    c.due("end(0)", x.end(0), true);
    c.due("nothing", x.text(0), 0);
  }

  private static void fullTape() {
    c.part("a TAPE of 400");
    RansomPieces x = taped(400);
    c.due("text of 400", x.text(0), 1);
    c.faulty(x, 0, "price" + " ".repeat(395), 1, 400);
    c.faulty(x, 0, " ".repeat(399) + "#", 1, 399);
    c.sound(x, 0, " ".repeat(392) + "price 5;", 1);
    c.due("PRICE", x.of(0, 5), 5);
    c.sound(x, 0, "price 1" + "+1".repeat(196) + ";", 1);
    c.due("PRICE", x.of(0, 5), 197);
    c.faulty(x, 0, "p".repeat(400), 1, 0);
    c.faulty(x, 0, "price " + "1".repeat(394), 1, 6);
    c.sound(x, 3, "0 after" + " 1".repeat(196) + ";", 1);
    c.due("AFTER", x.of(0, 7), 2);
  }

  private static void textNumbers() {
    c.part("7: TEXTS 0 .. 4; NONE: no such one (fault() tells 0)");
    for (int k : new int[] {-1, 5, 6, MIN, MAX}) {
      RansomPieces x = three();
      c.faulty(x, 0, "price", 1, 5);
      Check.feed(x, "price 7;");
      c.due("text(" + k + ")", x.text(k), -1);
      c.due("fault(0)", x.fault(0), 0);
      c.due("fault(1)", x.fault(1), -1);
      c.due("no TEXT is other", x.of(0, 5), 10);
      for (int i = 9; i <= 13; i++) {
        c.due("look(" + i + ")", x.look(i), 0);
      }
    }
    RansomPieces x = three();
    c.sound(x, 0, "price 7;", 1);
    c.sound(x, 4, "cry 1;cry 2;", 2);
    c.due("text(-1)", x.text(-1), -1);
    c.due("text(5)", x.text(5), -1);
    c.due("PRICES stay", x.look(9), 1);
    c.due("A PLAN stays", x.look(13), 2);
    c.leaves("text(5) of nothing", BoundsTextTest::three, y -> y.text(5), -1);
    c.leaves("text(-1) of nothing", BoundsTextTest::three, y -> y.text(-1), -1);
  }

  private static void tapeIsEmptyThen() {
    c.part("7: the TAPE, empty then");
    RansomPieces x = three();
    for (int k = 0; k < 5; k++) {
      Check.feed(x, "  \n");
      c.due("text(" + k + ")", x.text(k), 0);
      c.due("empty", x.end(1), false);
      Check.feed(x, "#");
      c.due("text(" + k + ") with a FAULT", x.text(k), -1);
      c.due("empty", x.end(1), false);
      c.due("feed", x.feed(0, 0, 0, 0, 0), 20);
      x.end(0);
    }
  }

  private static void staysAsItWas() {
    c.part("7: a FAULT (it stays as it was)");
    RansomPieces x = Check.with(10, 20, 30);
    x.set(0, 0, 999);
    x.set(1, 0, 50);
    c.sound(x, 0, "price 7;price 8;", 2);
    c.faulty(x, 0, "price 9;price 9;price 9;price", 1, 29);
    c.due("lines", x.look(9), 2);
    c.due("PRICE", x.of(0, 5), 7);
    c.sound(x, 1, "wear 3;eat 4;", 2);
    c.faulty(x, 1, "wear 9;eat 9;eat 9;eat 1/0;", 2, 25);
    c.due("lines", x.look(10), 2);
    x.weeks(1);
    c.due("wear", x.of(0, 1), 3);
    c.due("eat", x.look(4), 46);
    c.sound(x, 2, "pass 0 from 0 to 9 mud 1;cave 1 by 0;", 2);
    c.faulty(x, 2, "pass 0 from 0 to 9 mud 2;cave 2 by 0;cave 3 by 0;cave 8", 2, 54);
    c.due("lines", x.look(11), 2);
    c.due("mud", x.mud(0, 5), 1);
    c.due("CAVES", x.kept(), 2);
    c.sound(x, 3, "1 after 0;2 after 0;", 2);
    c.faulty(x, 3, "0 after 1;1 after 2;2 after 1;2", 1, 31);
    c.due("lines", x.look(12), 2);
    c.due("of(0, 7)", x.of(0, 7), 0);
    c.due("of(1, 7)", x.of(1, 7), 1);
    c.due("of(2, 7)", x.of(2, 7), 1);
    c.sound(x, 4, "cry 4;wait 1;", 2);
    c.faulty(x, 4, "pay 0 by 0;cry 5;cry 6;cry", 1, 26);
    c.due("deeds", x.look(13), 2);
    c.due("goes", x.goes(), 2);
    c.due("what it did", x.book(0, 2), 4);
    c.due("what it did", x.look(7), 1);
  }

  private static void faultWhat() {
    c.part("8: of the latest text() what 0, 1; NONE for another what");
    RansomPieces x = three();
    for (int round = 0; round < 2; round++) {
      for (int what : new int[] {-1, 2, 3, MIN, MAX}) {
        c.due("fault(" + what + ")", x.fault(what), -1);
      }
      c.due("fault(0)", x.fault(0), round * 2);
      c.due("fault(1)", x.fault(1), round == 0 ? -1 : 8);
      c.faulty(x, 0, "price 1/0;", 2, 8);
    }
    c.sound(x, 0, "price 1;", 1);
    c.faulty(x, 4, "#", 1, 0);
    c.sound(x, 1, "", 0);
    c.faulty(x, 2, "pass 6", 2, 5);
    Check.feed(x, "#");
    x.end(0);
    c.due("fault(0) until the next text()", x.fault(0), 2);
    c.due("fault(1) until the next text()", x.fault(1), 5);
  }

  private static void emptyTexts() {
    c.part("TEXTS (empty at first): a TEXT may be empty");
    RansomPieces x = Check.open(10, 20);
    String[] some = {"price 5;", "wear 5;", "cave 5 by 0;", "1 after 0;", "cry 5;"};
    for (int k = 0; k < 5; k++) {
      for (String none : new String[] {"", " ", "\n", " \n \n"}) {
        c.sound(x, k, some[k], 1);
        c.due("look", x.look(9 + k), 1);
        c.sound(x, k, none, 0);
        c.due("look", x.look(9 + k), 0);
      }
    }
    c.due("none: worth", x.of(0, 5), 10);
    c.due("no PASS", x.mud(0, 0), -1);
    c.due("no CAVE", x.kept(), 0);
    c.due("none AFTER", x.of(1, 7), 0);
    c.due("no deed", x.goes(), 0);
    x.weeks(1);
    c.due("wear 1", x.of(0, 1), 1);
  }

  // ---- TOKENS

  private static void digits() {
    c.part("NUMBERS of 1 to 4 digits or none");
    RansomPieces x = three();
    for (String one : new String[] {"1", "01", "001", "0001"}) {
      c.sound(x, 0, "price " + one + ";", 1);
      c.sound(x, 0, "price 5/" + one + ";", 1);
      c.sound(x, 2, "pass " + one + " from " + one + " to " + one + " mud " + one + ";cave " + one + " by " + one + ";", 2);
      c.sound(x, 3, one + " after 0;0 after " + one + ";", 2);
      c.sound(x, 4, "pay " + one + " by " + one + ";cry " + one + ";wait " + one + ";again " + one + "(cry 1;)", 4);
    }
    for (String five : new String[] {"00001", "00000", "12345", "000001", "99999999999999999999"}) {
      x = three();
      c.faultAt(x, 0, 1, "price @" + five + ";");
      c.faultAt(x, 0, 1, "price 5/@" + five + ";");
      c.faultAt(x, 2, 1, "pass @" + five + " from");
      c.faultAt(x, 2, 1, "pass 1 from @" + five + " to");
      c.faultAt(x, 2, 1, "pass 1 from 1 to @" + five + " mud");
      c.faultAt(x, 2, 1, "pass 1 from 1 to 1 mud @" + five + ";");
      c.faultAt(x, 2, 1, "cave @" + five + " by");
      c.faultAt(x, 2, 1, "cave 1 by @" + five + ";");
      c.faultAt(x, 3, 1, "@" + five + " after 0;");
      c.faultAt(x, 3, 1, "0 after @" + five + ";");
      c.faultAt(x, 3, 1, "0 after 1 @" + five + ";");
      c.faultAt(x, 4, 1, "pay @" + five + " by");
      c.faultAt(x, 4, 1, "pay 0 by @" + five + ";");
      c.faultAt(x, 4, 1, "cry @" + five + ";");
      c.faultAt(x, 4, 1, "wait @" + five + ";");
      c.faultAt(x, 4, 1, "again @" + five + "(");
    }
    x = three();
    c.sound(x, 0, "price 0;", 1);
    c.due("0", x.of(0, 5), 1);
    c.sound(x, 0, "price 9999;", 1);
    c.due("9999", x.of(0, 5), 9999);
    c.sound(x, 0, "price 0012;", 1);
    c.due("0012", x.of(0, 5), 12);
  }

  private static void blanks() {
    c.part("blanks (32, 10) between");
    RansomPieces x = three();
    c.sound(x, 0, " \nprice\n \n5\n;\n", 1);
    c.sound(x, 0, "price5;price6;", 2);
    c.sound(x, 0, "price 5when 1=1;", 1);
    for (int sign : new int[] {0, 9, 11, 12, 13, 31, 33, 127, 128, 138, 160, 255}) {
      c.faultAt(x, 0, 1, "@" + (char) sign + "price 5;");
      c.faultAt(x, 0, 1, "price@" + (char) sign + "5;");
      c.faultAt(x, 0, 1, "price 5;@" + (char) sign);
    }
    c.faultAt(x, 0, 1, "@pri ce 5;");
    c.faultAt(x, 0, 1, "price 1 @2;");
    c.faultAt(x, 3, 1, "0 @af ter 1;");
    c.sound(x, 3, "0after1 2;", 1);
    c.due("two NUMBERS", x.of(0, 7), 6);
    c.faultAt(x, 3, 2, "0 after @12;");
  }

  private static void letters() {
    c.part("letters as many as stand together are KEYWORDS (those told here for that text) or none");
    RansomPieces x = three();
    c.faultAt(x, 0, 1, "@pric 1;");
    c.faultAt(x, 0, 1, "@pricee 1;");
    c.faultAt(x, 0, 1, "@priceprice 1;");
    c.faultAt(x, 0, 1, "@PRICE 1;");
    c.faultAt(x, 0, 1, "@pricE 1;");
    c.faultAt(x, 0, 1, "price @worthy;");
    c.faultAt(x, 0, 1, "price 1 when @notnot 1=1;");
    c.faultAt(x, 0, 1, "@aprice 1;");
    for (String one : new String[] {"a", "z", "A", "Z", "m", "M"}) {
      c.faultAt(x, 0, 1, "price 1 @" + one + ";");
      c.faultAt(x, 0, 1, "@price" + one + " 1;");
      c.faultAt(x, 0, 1, "@" + one + "price 1;");
    }
    for (String one : new String[] {"@", "[", "`", "{", "_"}) {
      int place = "price".length();
      c.faulty(x, 0, "price" + one + "1;", 1, place);
      c.faulty(x, 0, "price 1" + one + ";", 1, place + 2);
    }
    String[] own = {"price", "wear", "eat", "gain", "pass", "cave", "after", "pay", "cry", "wait", "again"};
    List<Set<String>> begins = List.of(Set.of("price"), Set.of("wear", "eat", "gain"), Set.of("pass", "cave"), Set.of(),
        Set.of("pay", "cry", "wait", "again"));
    for (int k = 0; k < 5; k++) {
      x = three();
      for (String word : own) {
        if (begins.get(k).contains(word)) {
          c.faultAt(x, k, 1, word + " @");
        } else {
          c.faultAt(x, k, 1, "@" + word + " 1;");
        }
      }
    }
    x = three();
    for (String unit : new String[] {"thing", "worth", "wears", "week", "cries", "rival", "credit"}) {
      c.sound(x, 0, "price " + unit + ";", 1);
      c.sound(x, 1, "wear " + unit + ";eat " + unit + ";gain " + unit + ";", 3);
    }
    for (String unit : new String[] {"home", "last"}) {
      c.sound(x, 0, "price " + unit + " when " + unit + "=1;", 1);
      c.faultAt(x, 1, 1, "wear @" + unit + ";");
      c.faultAt(x, 1, 1, "eat 1 when 1=@" + unit + ";");
    }
    for (String unit : new String[] {"price", "wear", "gold", "when", "not", "or", "mud"}) {
      c.faultAt(x, 0, 1, "price @" + unit + ";");
      c.faultAt(x, 1, 1, "wear @" + unit + ";");
    }
  }

  // ---- FAULT 2

  private static void partByNought() {
    c.part("2: a part by 0");
    RansomPieces x = three();
    for (String nought : new String[] {"0", "00", "000", "0000"}) {
      c.faultAt(x, 0, 2, "price 1/@" + nought + ";");
      c.faultAt(x, 0, 2, "price worth*2/@" + nought + "+1;");
      c.faultAt(x, 0, 2, "price 1 when 1/@" + nought + "=1;");
      c.faultAt(x, 0, 2, "price 1 when 1=1/@" + nought + ";");
      c.faultAt(x, 1, 2, "eat 1/@" + nought + ";");
      c.sound(x, 0, "price " + nought + "/1;", 1);
      c.sound(x, 0, "price 1*" + nought + ";", 1);
    }
    c.sound(x, 0, "price worth/1;", 1);
    c.due("a part by 1", x.of(0, 5), 10);
    c.sound(x, 0, "price 9999/9999+5;", 1);
    c.due("a part by 9999", x.of(0, 5), 6);
    c.faultAt(x, 0, 1, "price 1/@worth;");
    c.faultAt(x, 0, 1, "price 1/@;");
  }

  private static void hillNumbers() {
    c.part("2: one beyond its bounds, of THE HILLS (MUD 0 .. 5, the second WEEK not below the first)");
    RansomPieces x = three();
    for (int pass = 0; pass <= 5; pass++) {
      c.sound(x, 2, "pass " + pass + " from 0 to 60 mud " + pass + ";cave 7 by " + pass + ";", 2);
      c.due("mud", x.mud(pass, 0), pass);
      c.due("mud", x.mud(pass, 60), pass);
    }
    for (String beyond : new String[] {"6", "7", "10", "9999", "0006"}) {
      c.faultAt(x, 2, 2, "pass @" + beyond + " from 0 to 0 mud 0;");
      c.faultAt(x, 2, 2, "pass 0 from 0 to 0 mud @" + beyond + ";");
      c.faultAt(x, 2, 2, "cave 0 by @" + beyond + ";");
    }
    c.sound(x, 2, "cave 0 by 0;cave 7 by 0;", 2);
    c.due("CAVES 0 and 7", x.kept(), 129);
    c.faultAt(x, 2, 2, "cave @8 by 0;");
    c.faultAt(x, 2, 2, "cave @9999 by 0;");
    c.sound(x, 2, "pass 0 from 0 to 0 mud 0;", 1);
    c.sound(x, 2, "pass 0 from 60 to 60 mud 0;", 1);
    c.sound(x, 2, "pass 0 from 59 to 60 mud 0;", 1);
    c.faultAt(x, 2, 2, "pass 0 from @61 to 61 mud 0;");
    c.faultAt(x, 2, 2, "pass 0 from 60 to @61 mud 0;");
    c.faultAt(x, 2, 2, "pass 0 from 0 to @61 mud 0;");
    c.faultAt(x, 2, 2, "pass 0 from 60 to @59 mud 0;");
    c.faultAt(x, 2, 2, "pass 0 from 1 to @0 mud 0;");
    c.sound(x, 2, "pass 0 from 31 to 31 mud 0;", 1);
    c.due("ahead", x.mud(0, 30), -1);
    c.due("in it", x.mud(0, 31), 0);
    c.due("behind", x.mud(0, 32), -1);
  }

  private static void afterThings() {
    c.part("2: a THING that there is not, or that is itself, of AFTER (lesser or greater ones)");
    RansomPieces x = new RansomPieces();
    c.faultAt(x, 3, 2, "@0 after 0;");
    c.faultAt(x, 3, 1, "@after 0;");
    for (int n = 1; n <= 8; n++) {
      x.thing(n);
      c.faultAt(x, 3, 2, "@" + n + " after 0;");
      c.faultAt(x, 3, 2, "0 after @0;");
      c.faultAt(x, 3, 2, "0 after @" + n + ";");
      c.faultAt(x, 3, 2, "@9999 after 0;");
      c.faultAt(x, 3, 2, n - 1 + " after @" + (n - 1) + ";");
      if (n > 1) {
        c.sound(x, 3, "0 after " + (n - 1) + ";" + (n - 1) + " after 0;", 2);
        c.due("a greater one", x.of(0, 7), 1 << n - 1);
        c.due("a lesser one", x.of(n - 1, 7), 1);
        c.faultAt(x, 3, 2, "0 after " + (n - 1) + " @" + n + ";");
        c.faultAt(x, 3, 2, "0 after " + (n - 1) + " " + (n - 1) + " @0;");
        c.faultAt(x, 3, 2, n - 1 + " after 0 @" + (n - 1) + " 0;");
      }
    }
    c.sound(x, 3, "3 after 0 1 2 4 5 6 7;", 1);
    c.due("all others", x.of(3, 7), 255 - 8);
    c.sound(x, 3, "3 after 0;3 after 7;3 after 0;", 3);
    c.due("by all its lines", x.of(3, 7), 129);
    c.due("no other", x.of(0, 7), 0);
  }

  private static void planNumbers() {
    c.part("2: one beyond its bounds, a THING that there is not, of A PLAN (cry 1 .. 20, wait 1 .. 20, again 1 .. 9)");
    RansomPieces x = new RansomPieces();
    c.faultAt(x, 4, 2, "pay @0 by 0;");
    for (int n = 1; n <= 8; n++) {
      x.thing(n);
      c.sound(x, 4, "pay 0 by 0;pay " + (n - 1) + " by 5;", 2);
      c.faultAt(x, 4, 2, "pay @" + n + " by 0;");
      c.faultAt(x, 4, 2, "pay @9999 by 0;");
    }
    c.faultAt(x, 4, 2, "pay 0 by @6;");
    c.faultAt(x, 4, 2, "pay 0 by @9999;");
    for (String word : new String[] {"cry", "wait"}) {
      c.sound(x, 4, word + " 1;" + word + " 20;", 2);
      c.faultAt(x, 4, 2, word + " @0;");
      c.faultAt(x, 4, 2, word + " @0000;");
      c.faultAt(x, 4, 2, word + " @21;");
      c.faultAt(x, 4, 2, word + " @9999;");
    }
    c.sound(x, 4, "again 1(cry 1;)", 1);
    c.sound(x, 4, "again 9(cry 1;)", 9);
    c.faultAt(x, 4, 2, "again @0(cry 1;)");
    c.faultAt(x, 4, 2, "again @10(cry 1;)");
    c.faultAt(x, 4, 2, "again @9999(cry 1;)");
  }

  // ---- FAULTS 3 and 4

  private static void lawLines() {
    c.part("3: the 17th line of a LAW (at its KEYWORD)");
    RansomPieces x = three();
    c.sound(x, 0, Check.times("price 3 when 1=2;", 14) + "price 4;", 15);
    c.sound(x, 0, Check.times("price 3 when 1=2;", 15) + "price 4;", 16);
    c.due("the 16th line counts", x.of(0, 5), 4);
    c.sound(x, 0, Check.times("price 3 when 1=2;", 15) + "price 1+2*3 when 1+2*3=7;", 16);
    c.due("the 16th line, whole", x.of(0, 5), 7);
    c.sound(x, 0, Check.times("price 3 when 1=2;", 15) + "price 4;", 16);
    c.faultAt(x, 0, 3, Check.times("price 5;", 16) + "@price 5;");
    c.faultAt(x, 0, 3, Check.times("price 5;", 16) + " \n@price");
    c.faultAt(x, 0, 3, Check.times("price 5;", 16) + "@price 1/0;");
    c.due("it stays as it was", x.of(0, 5), 4);
    c.sound(x, 1, Check.times("eat 3;gain 3;eat 1;", 5) + "wear 4;", 16);
    c.faultAt(x, 1, 3, Check.times("eat 3;gain 3;eat 1;", 5) + "eat 4;@wear 4;");
    c.faultAt(x, 1, 3, Check.times("wear 3;wear 4;", 8) + "@gain");
    c.faultAt(x, 1, 3, Check.times("gain 3;gain 4;", 8) + "@eat 1;");
    c.due("lines", x.look(10), 16);
    x.weeks(1);
    c.due("the 16th line counts", x.of(0, 1), 4);
  }

  private static void lawsAnew() {
    c.part("a LAW told anew has its own lines alone, however often");
    RansomPieces x = three();
    for (int i = 0; i < 12; i++) {
      c.sound(x, 0, "price " + i + Check.times("+1", 150) + ";", 1);
      c.due("PRICE", x.of(0, 5), 150 + i);
    }
    RansomPieces y = three();
    for (int i = 0; i < 12; i++) {
      c.sound(y, 1, "wear " + i + Check.times("*1", 150) + ";", 1);
      y.set(7, 0, 0);
      y.weeks(1);
      c.due("WEAR", y.of(0, 1), i);
    }
  }

  private static void hillLines() {
    c.part("3: the 25th line of THE HILLS (at its KEYWORD)");
    RansomPieces x = three();
    String many = Check.times("cave 1 by 1;", 23);
    c.sound(x, 2, many, 23);
    c.sound(x, 2, many + "pass 1 from 4 to 5 mud 3;", 24);
    c.due("the 24th line counts", x.mud(1, 4), 3);
    c.faultAt(x, 2, 3, many + "pass 1 from 4 to 5 mud 2;@pass 1 from 1 to 1 mud 1;");
    c.faultAt(x, 2, 3, many + "cave 1 by 1;\n@cave");
    c.faultAt(x, 2, 3, many + "cave 1 by 1;@cave 8 by 8;");
    c.due("lines", x.look(11), 24);
    c.due("it stays as it was", x.mud(1, 4), 3);
    c.sound(x, 2, many + "cave 7 by 2;", 24);
    c.due("the 24th line counts", x.kept(), 128 + 2);
  }

  private static void afterLines() {
    c.part("3: the 13th line of AFTER (at the first THING)");
    RansomPieces x = three();
    String many = Check.times("1 after 0;", 11);
    c.sound(x, 3, many, 11);
    c.sound(x, 3, many + "2 after 1;", 12);
    c.due("the 12th line counts", x.of(2, 7), 2);
    c.faultAt(x, 3, 3, many + "1 after 0;@1 after 0;");
    c.faultAt(x, 3, 3, many + "1 after 0; @2");
    c.faultAt(x, 3, 3, many + "1 after 0;@2 after 2;");
    c.faultAt(x, 3, 3, many + "1 after 0;@0 5;");
    c.due("lines", x.look(12), 12);
    c.due("it stays as it was", x.of(2, 7), 2);
  }

  private static void openOnes() {
    c.part("3: the 9th ( or not that is open (at it)");
    RansomPieces x = three();
    String when = "price 5 when ";
    for (int brackets = 0; brackets <= 8; brackets++) {
      x = three();
      int nots = 8 - brackets;
      c.sound(x, 0, when + "(".repeat(brackets) + "not ".repeat(nots) + "1=2" + ")".repeat(brackets) + ";price 6;", 2);
      c.due("PRICE", x.of(0, 5), nots % 2 == 0 ? 6 : 5);
      c.sound(x, 0, when + "not ".repeat(nots) + "(".repeat(brackets) + "1=2" + ")".repeat(brackets) + ";price 6;", 2);
      c.due("PRICE", x.of(0, 5), nots % 2 == 0 ? 6 : 5);
      c.faultAt(x, 0, 3, when + "(".repeat(brackets) + "not ".repeat(nots) + "@(1=2)");
      c.faultAt(x, 0, 3, when + "(".repeat(brackets) + "not ".repeat(nots) + "@not 1=2");
      c.faultAt(x, 1, 3, "eat 5 when " + "not ".repeat(nots) + "(".repeat(brackets) + "@(");
      c.faultAt(x, 1, 3, "eat 5 when " + "not ".repeat(nots) + "(".repeat(brackets) + "@not");
    }
    x = three();
    c.sound(x, 0, when + "(((((((1=1) and (1=1)) and (1=1)) or not not 1=1))));", 1);
    c.sound(x, 0, when + Check.times("not not not not 1=2 and ", 6) + "1=1;", 1);
    c.sound(x, 0, when + Check.times("(((1=1))) or ", 8) + "not not not not not not not not 1=1;", 1);
    c.faultAt(x, 0, 3, when + Check.times("(((1=1))) or ", 8) + "not not not not not not not not @not 1=1;");
    c.faultAt(x, 0, 3, when + "(((((((not 1=1 and not @(1=1))))))));");
    c.faultAt(x, 0, 3, when + "((((((((1=1)and(1=1)and(@(1=1");
    c.sound(x, 0, when + "((((((((1=1)and 1=1)))))));", 1);
    c.sound(x, 0, Check.times(when + "((((1=1))));", 9), 9);
    String deepest = when + Check.times("1=2 or 1=1 and(", 8) + "1=2 or 1=1 and 1+2*3@4+5*6" + ")".repeat(8) + ";price 6;";
    c.sound(x, 0, deepest.replace('@', '<'), 2);
    c.due("all that can wait at once, so", x.of(0, 5), 5);
    c.sound(x, 0, deepest.replace('@', '>'), 2);
    c.due("all that can wait at once, not so", x.of(0, 5), 6);
  }

  private static void openAgains() {
    c.part("3: the 5th again that is open (at again)");
    RansomPieces x = three();
    c.sound(x, 4, "again 2(again 2(again 2(again 2(cry 1;))))", 16);
    c.faultAt(x, 4, 3, "again 2(again 2(again 2(again 2(@again 2(cry 1;)))))");
    c.faultAt(x, 4, 3, "again 2(again 2(again 2(again 2(cry 1;@again");
    c.sound(x, 4, "again 1(again 1(again 1(again 1(cry 1;)again 1(cry 1;))again 1(again 1(cry 1;))))again 1(cry 1;)", 4);
    c.faultAt(x, 4, 3, "again 1(again 1(again 1(again 1(cry 1;)again 1(@again 1(cry 1;)))))");
    c.sound(x, 4, Check.times("again 1()", 9), 0);
    c.due("deeds", x.look(13), 0);
  }

  private static void deeds() {
    c.part("4: more than 60 deeds of A PLAN (each but again as often as it is told) (at the end)");
    RansomPieces x = three();
    c.sound(x, 4, Check.times("cry 1;", 59), 59);
    c.sound(x, 4, Check.times("cry 1;", 60), 60);
    c.due("look(13)", x.look(13), 60);
    c.faultAt(x, 4, 4, Check.times("cry 1;", 61) + "@");
    c.due("it stays as it was", x.look(13), 60);
    c.sound(x, 4, "again 6(again 5(cry 1;wait 1;))", 60);
    c.sound(x, 4, "again 5(again 4(cry 1;wait 1;pay 0 by 0;))again 9()", 60);
    c.faultAt(x, 4, 4, "again 6(again 5(cry 1;wait 1;))pay 0 by 0; \n@");
    c.faultAt(x, 4, 4, "again 7(again 9(cry 1;))@");
    c.faultAt(x, 4, 4, "wait 1;again 6(again 5(cry 1;wait 1;))again 3()@");
    c.sound(x, 4, "again 9(again 6(cry 1;)) cry 1;cry 1;cry 1;cry 1;cry 1;cry 1;", 60);
    c.faultAt(x, 4, 4, "again 9(again 6(cry 1;)) cry 1;cry 1;cry 1;cry 1;cry 1;cry 1;cry 1;@");
    c.faultAt(x, 4, 4, "again 9(again 9(again 9(again 9(" + Check.times("cry 1;", 60) + "))))@");
    c.sound(x, 4, Check.times("cry 1;", 59) + "cry 7;", 60);
    c.due("all 60 are done", x.goes(), 60);
    c.due("the 60th", x.book(59, 2), 7);
  }

  // ---- FAULT 1, and which FAULT is told

  private static void whatCantStand() {
    c.part("1: what can't stand there");
    RansomPieces x = three();
    for (String sign : new String[] {";", "+", "-", "*", "/", "(", ")", "<", "=", ">", "5", "#", "!"}) {
      x = three();
      c.faultAt(x, 0, 1, "@" + sign);
      c.faultAt(x, 1, 1, "@" + sign);
      c.faultAt(x, 2, 1, "@" + sign);
      c.faultAt(x, 4, 1, "@" + sign);
      c.faultAt(x, 0, 1, "price 5;@" + sign);
      c.faultAt(x, 4, 1, "cry 5;@" + sign);
      if (!sign.equals("5")) {
        c.faultAt(x, 3, 1, "@" + sign);
        c.faultAt(x, 0, 1, "price @" + sign);
        c.faultAt(x, 2, 1, "pass @" + sign);
        c.faultAt(x, 2, 1, "cave 1 by @" + sign);
        c.faultAt(x, 3, 1, "0 after @" + sign);
        c.faultAt(x, 4, 1, "cry @" + sign);
      }
      if (!sign.equals("(")) {
        c.faultAt(x, 4, 1, "again 2 @" + sign);
      }
      if (!sign.equals(";")) {
        c.faultAt(x, 4, 1, "cry 2 @" + sign);
        c.faultAt(x, 2, 1, "cave 1 by 1 @" + sign);
      }
    }
    c.faultAt(x, 0, 1, "price 1 when 1@;");
    c.faultAt(x, 0, 1, "price 1 when 1=1 @when 1=1;");
    c.faultAt(x, 0, 1, "price 1 when 1=1@>0;");
    c.faultAt(x, 0, 1, "price 1 when not@;");
    c.faultAt(x, 0, 1, "price 1 when (@);");
    c.faultAt(x, 0, 1, "price 1 when (1@)=1;");
    c.faultAt(x, 0, 1, "price 1 @or 1=1;");
  }

  private static void theEnd() {
    c.part("1: the end: the text's length");
    RansomPieces x = three();
    String[][] whole = {
      {"price", " 1", "+", "2", "*", "3", "/", "4", " when", " not", " (", "1", "=", "2", " and", " 1", ">", "0", " or", " 1", "<", "2", ")", ";"},
      {"wear", " 1", " when", " 1", "=", "1", ";"},
      {"pass", " 1", " from", " 1", " to", " 2", " mud", " 3", ";"},
      {"1", " after", " 0", " 2", ";"},
      {"again", " 2", "(", "pay", " 1", " by", " 0", ";", "cry", " 1", ";", "wait", " 1", ";", ")"}
    };
    for (int k = 0; k < 5; k++) {
      x = three();
      StringBuilder text = new StringBuilder();
      for (int i = 0; i + 1 < whole[k].length; i++) {
        text.append(whole[k][i]);
        c.faultAt(x, k, 1, text + "@");
        c.faultAt(x, k, 1, text + " \n @");
      }
      text.append(whole[k][whole[k].length - 1]);
      c.sound(x, k, text.toString(), k == 4 ? 6 : 1);
    }
    c.faultAt(x, 2, 1, "cave@");
    c.faultAt(x, 2, 1, "cave 1@");
    c.faultAt(x, 2, 1, "cave 1 by@");
    c.faultAt(x, 2, 1, "cave 1 by 1@");
  }

  private static void firstByPlace() {
    c.part("FAULTS, the first by its place");
    RansomPieces x = three();
    c.faultAt(x, 0, 2, "price 1/@0 # ;");
    c.faultAt(x, 0, 1, "price @# 1/0;");
    c.faultAt(x, 0, 2, "price 1/@0;" + Check.times("price 1;", 16));
    c.faultAt(x, 0, 3, Check.times("price 1;", 16) + "@price 1/0 #;");
    c.faultAt(x, 0, 2, "price 1 when 1/@0=((((((((((;");
    c.faultAt(x, 2, 2, "pass @6 from 61 to 99 mud 9;");
    c.faultAt(x, 2, 2, "pass 5 from @61 to 60 mud 9;");
    c.faultAt(x, 2, 2, "pass 5 from 10 to @9 mud 9;");
    c.faultAt(x, 3, 2, "@3 after 3;");
    c.faultAt(x, 3, 2, "1 after @1 3;");
    c.faultAt(x, 4, 2, "pay @3 by 6;");
    c.faultAt(x, 4, 2, "cry @0;" + Check.times("cry 1;", 60));
    c.faultAt(x, 4, 2, Check.times("cry 1;", 60) + "cry @0;");
    c.faultAt(x, 4, 3, "again 9(again 9(cry 1;))again 1(again 1(again 1(again 1(@again 1(");
  }

  private static void leastAtOnePlace() {
    c.part("FAULTS, at one place the least");
    RansomPieces x = three();
    c.faultAt(x, 3, 2, Check.times("1 after 0;", 12) + "@3 after 0;");
    c.faultAt(x, 3, 1, Check.times("1 after 0;", 12) + "@after 0;");
    c.faultAt(x, 3, 1, Check.times("1 after 0;", 12) + "@00001 after 0;");
    c.faultAt(x, 0, 1, Check.times("price 1;", 16) + "@wear 1;");
    c.faultAt(x, 2, 1, Check.times("cave 1 by 1;", 24) + "@by;");
    c.faultAt(x, 4, 1, "again 9(again 9(cry 1;)@");
    c.faultAt(x, 4, 1, Check.times("cry 1;", 61) + "cry@");
    c.faultAt(x, 4, 4, Check.times("cry 1;", 61) + "@");
  }
}
