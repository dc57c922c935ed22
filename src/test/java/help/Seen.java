/**
 * All that can be seen of an object, a line for each answer, in some 300 calls. The object is used up by it: what lies
 * on the TAPE, what can be undone and THE IMAGE show only by being used.
 */
final class Seen {
  private static final int MIN = Integer.MIN_VALUE;
  private static final int MAX = Integer.MAX_VALUE;

  private final RansomPieces x;
  private final StringBuilder lines = new StringBuilder();

  private Seen(RansomPieces x) {
    this.x = x;
  }

  /** An answer that can be asked for of an object. */
  interface Call {
    long on(RansomPieces x);
  }

  static String of(RansomPieces x) {
    Seen seen = new Seen(x);
    seen.things();
    seen.looks();
    seen.lists();
    seen.thoughts();
    seen.tapeAndText();
    seen.undone();
    seen.image();
    return seen.lines.toString();
  }

  private void line(String call, long answer) {
    lines.append(call).append(" -> ").append(answer).append('\n');
  }

  private void looks() {
    for (int i = 0; i <= 22; i++) {
      line("look(" + i + ")", x.look(i));
    }
    line("fault(0)", x.fault(0));
    line("fault(1)", x.fault(1));
  }

  private void things() {
    int things = x.look(0);
    for (int i = 0; i < things; i++) {
      for (int j = 0; j < 8; j++) {
        line("of(" + i + ", " + j + ")", x.of(i, j));
      }
    }
  }

  private void lists() {
    int book = Math.min(6, x.look(7));
    for (int i = 0; i < book; i++) {
      for (int j = 0; j < 5; j++) {
        line("book(" + i + ", " + j + ")", x.book(i, j));
      }
    }
    for (int pass = 0; pass < 6; pass++) {
      for (int week = 0; week <= 10; week += 5) {
        line("mud(" + pass + ", " + week + ")", x.mud(pass, week));
      }
    }
    for (int i = 10; i < 16; i++) {
      line("least(" + i + ")", x.least(i));
      line("orders(" + i + ")", x.orders(i));
      line("letters(" + i + ")", x.letters(i));
    }
  }

  private void thoughts() {
    line("least(0)", x.least(0));
    line("least(1)", x.least(1));
    line("orders(0)", x.orders(0));
    line("fits", x.fits(MIN, MAX, 5, 1));
    line("kept()", x.kept());
    line("letters(0)", x.letters(0));
    line("wrong()", x.wrong());
    line("lasts()", x.lasts());
    line("messengers(0)", x.messengers(0));
    line("messengers(1)", x.messengers(1));
    line("hit(0)", x.hit(0));
    line("hit(1)", x.hit(1));
  }

  /** LAWS leave what can be undone alone. */
  private void tapeAndText() {
    line("feed", x.feed(0x20202020, 0x20202020, 0x20202020, 0x20202020, 0x20202020));
    line("text(0)", x.text(0));
    line("PRICE by it", x.of(0, 5));
  }

  private void undone() {
    for (int i = 0; i < 7; i++) {
      line("undo()", x.undo() ? 1 : 0);
      for (int j = 1; j < 9; j++) {
        line("look(" + j + ")", x.look(j));
      }
    }
  }

  private void image() {
    line("image(false)", x.image(false) ? 1 : 0);
    for (int i = 0; i <= 22; i++) {
      line("look(" + i + ")", x.look(i));
    }
    line("least(0)", x.least(0));
    line("letters(0)", x.letters(0));
    line("wrong()", x.wrong());
  }
}
