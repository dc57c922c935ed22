import java.lang.reflect.InvocationTargetException;
import java.lang.reflect.Method;
import java.lang.reflect.Modifier;

/** No call may throw, whatever it is given: every public method with numbers at and beyond all edges, in three states. */
public final class ExtremesTest {
  private static final int[] NUMBERS = {
    Integer.MIN_VALUE, -1000, -2, -1, 0, 1, 2, 5, 6, 7, 8, 12, 60, 61, 99, 100, 255, 256, 9999, Integer.MAX_VALUE};

  private static int failed;

  public static void main(String[] args) throws IllegalAccessException {
    for (int state = 0; state < 3; state++) {
      for (Method m : RansomPieces.class.getDeclaredMethods()) {
        if (Modifier.isPublic(m.getModifiers())) {
          all(state, m);
        }
      }
    }
    bytes();
    System.out.println(failed == 0 ? "no call threw" : failed + " calls threw");
    if (failed != 0) {
      System.exit(1);
    }
  }

  private static RansomPieces made(int state) {
    RansomPieces x = state == 0 ? new RansomPieces() : Check.open(1, 999, 0, 5, 6, 7, 8, 9);
    if (state == 2) {
      Check.tell(x, 0, "price worth*9999*9999-week/7+last*home when not thing=wears or credit>cries;");
      Check.tell(x, 1, "wear worth*9999*9999;eat credit-week;gain 0-cries;");
      Check.tell(x, 3, "0 after 1 2 3;");
      Check.tell(x, 4, "again 5(pay 1 by 0;wait 1;pay 2 by 0;cry 20;)");
      for (int i = 0; i < 5; i++) {
        x.set(i, 0, 90);
      }
      x.goes();
      x.image(true);
    }
    return x;
  }

  private static void all(int state, Method m) throws IllegalAccessException {
    Class<?>[] types = m.getParameterTypes();
    int choices = types.length > 4 ? 4 : types.length > 3 ? 9 : NUMBERS.length;
    int total = 1;
    for (int i = 0; i < types.length; i++) {
      total *= choices;
    }
    RansomPieces x = made(state);
    for (int i = 0; i < total; i++) {
      if (i % 400 == 399) {
        x = made(state);
      }
      Object[] given = new Object[types.length];
      int rest = i;
      for (int j = 0; j < types.length; j++) {
        int number = NUMBERS[rest % choices * (NUMBERS.length - 1) / Math.max(1, choices - 1)];
        given[j] = types[j] == boolean.class ? (Object) (rest % 2 == 0) : (Object) number;
        rest /= choices;
      }
      try {
        m.invoke(x, given);
      } catch (InvocationTargetException e) {
        failed++;
        System.out.println(m.getName() + java.util.Arrays.toString(given) + " threw " + e.getCause());
      }
    }
  }

  /** A TAPE of any one byte, as each TEXT. */
  private static void bytes() {
    for (int b = 0; b < 256; b++) {
      for (int k = 0; k < 5; k++) {
        RansomPieces x = made(1);
        int four = b * 0x01010101;
        for (int i = 0; i < 20; i++) {
          x.feed(four, four, four, four, four);
        }
        boolean blank = b == 32 || b == 10;
        int answer = x.text(k);
        boolean number = k == 3 && b >= '0' && b <= '9';
        if (answer != (blank ? 0 : -1) || x.fault(0) != (blank ? 0 : 1) || !blank && !number && x.fault(1) != 0) {
          failed++;
          System.out.println("400 of byte " + b + " as TEXT " + k + " answered " + answer + ", fault " + x.fault(0));
        }
      }
    }
  }
}
