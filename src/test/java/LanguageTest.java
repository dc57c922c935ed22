import java.io.IOException;
import java.lang.reflect.Constructor;
import java.lang.reflect.Field;
import java.lang.reflect.Method;
import java.lang.reflect.Modifier;
import java.nio.file.Files;
import java.nio.file.Path;
import java.util.Set;
import java.util.TreeSet;
import java.util.regex.Matcher;
import java.util.regex.Pattern;

/**
 * The public face, those rules of LANGUAGE.md that can be seen from the class and its source, and that objects are made
 * in constructors alone, as README.md says.
 */
public final class LanguageTest {
  private static final Check c = new Check();

  private static final Set<String> FACE = new TreeSet<>(Set.of(
      "state:int:int", "thing:int:int", "set:boolean:int,int,int", "feed:int:int,int,int,int,int", "end:boolean:int",
      "text:int:int", "fault:int:int"));

  private static final String[] MORE_OF_FACE = {
    "pay:int:int,int", "cry:int:int", "weeks:int:int", "goes:int:", "of:int:int,int", "mud:int:int,int",
    "book:int:int,int", "least:int:int", "orders:int:int", "fits:int:int,int,int,int", "kept:int:", "letter:int:int",
    "letters:int:int", "sight:int:int,int,int", "wrong:int:", "lasts:int:", "cards:long:int,int,int,int",
    "share:int:int,int,int,int", "errand:int:int,int", "messengers:int:int", "hit:int:int", "undo:boolean:",
    "image:boolean:boolean", "look:int:int"
  };

  public static void main(String[] args) throws IOException {
    for (String one : MORE_OF_FACE) {
      FACE.add(one);
    }
    face();
    insides();
    source(Files.readString(Path.of("src/main/java/RansomPieces.java")));
    c.finish();
  }

  private static String told(Method m) {
    StringBuilder s = new StringBuilder(m.getName() + ":" + m.getReturnType() + ":");
    for (Class<?> type : m.getParameterTypes()) {
      s.append(s.charAt(s.length() - 1) == ':' ? "" : ",").append(type);
    }
    return s.toString();
  }

  private static void face() {
    c.part("the face");
    c.due("final", Modifier.isFinal(RansomPieces.class.getModifiers()), true);
    Set<String> seen = new TreeSet<>();
    for (Method m : RansomPieces.class.getDeclaredMethods()) {
      if (Modifier.isPublic(m.getModifiers())) {
        seen.add(told(m));
      } else {
        c.due(m.getName() + " is private", Modifier.isPrivate(m.getModifiers()), true);
      }
    }
    c.due("methods " + seen, seen.equals(FACE), true);
    for (Field f : RansomPieces.class.getDeclaredFields()) {
      c.due(f.getName() + " is private", Modifier.isPrivate(f.getModifiers()), !f.getName().equals("NONE"));
    }
    Constructor<?>[] made = RansomPieces.class.getDeclaredConstructors();
    c.due("constructors", made.length, 1);
    c.due("public", Modifier.isPublic(made[0].getModifiers()), true);
    c.due("without arguments", made[0].getParameterCount(), 0);
  }

  private static void insides() {
    c.part("the classes inside");
    Set<String> names = new TreeSet<>();
    for (String one : FACE) {
      names.add(one.substring(0, one.indexOf(':')));
    }
    Class<?>[] inside = RansomPieces.class.getDeclaredClasses();
    c.due("at most twelve classes", inside.length + 1 <= 12, true);
    look(RansomPieces.class, names);
    for (Class<?> one : inside) {
      c.due(one + " is static", Modifier.isStatic(one.getModifiers()), true);
      c.due(one + " isn't public", Modifier.isPublic(one.getModifiers()), false);
      look(one, names);
    }
  }

  private static void look(Class<?> one, Set<String> publicNames) {
    int fields = 0;
    for (Field f : one.getDeclaredFields()) {
      if (Modifier.isStatic(f.getModifiers())) {
        c.due(one + "." + f.getName() + " is final", Modifier.isFinal(f.getModifiers()), true);
      } else {
        fields++;
      }
    }
    c.due(one + " has some twenty fields", fields <= 20, true);
    for (Method m : one.getDeclaredMethods()) {
      c.due(one + "." + m.getName() + " has seven parameters at most", m.getParameterCount() <= 7, true);
      if (!Modifier.isPublic(m.getModifiers())) {
        c.due(one + "." + m.getName() + " bears a public name", publicNames.contains(m.getName()), false);
      }
    }
  }

  private static void source(String whole) {
    c.part("the source");
    for (int i = 0; i < whole.length(); i++) {
      if (whole.charAt(i) > 126 || whole.charAt(i) < 32 && whole.charAt(i) != '\n') {
        c.due("a sign outside 32 .. 126 at " + i, true, false);
      }
    }
    String code = whole.replaceAll("(?s)/\\*.*?\\*/", "").replaceAll("//[^\n]*", "")
        .replaceAll("\"(\\\\.|[^\"\\\\])*\"", "\"\"").replaceAll("'(\\\\.|[^'\\\\])'", "'x'");
    String[] none = {"throw", "throws", "try", "catch", "finally", "synchronized", "assert", "instanceof", "record",
      "native", "volatile", "transient", "protected", "package", "Object", "Integer\\.valueOf", "var", "goto"};
    for (String word : none) {
      c.due(word + " stands there", Pattern.compile("\\b" + word + "\\b").matcher(code).find(), false);
    }
    for (String sign : new String[] {"->", "::", "@", "\"\" +", "+ \"\""}) {
      c.due(sign + " stands there", code.contains(sign), false);
    }
    c.due("imports", Pattern.compile("(?m)^import (?!java\\.util\\.Arrays;)").matcher(code).find(), false);
    Matcher call = Pattern.compile("\\b(Arrays|System|Math|Integer|Long)\\.(\\w+)").matcher(code);
    Set<String> listed = Set.of("Arrays.fill", "System.arraycopy", "Math.max", "Math.min", "Math.floorDiv", "Integer.bitCount");
    while (call.find()) {
      c.due(call.group() + " is listed", listed.contains(call.group()), true);
    }
    methods(code);
  }

  /** Methods are told by their depth: a line that opens a body with a ( in it, until its own }. */
  private static void methods(String code) {
    String[] lines = code.split("\n");
    for (int i = 0; i < lines.length; i++) {
      Matcher m = Pattern.compile("^( {2}| {4})[a-zA-Z].*\\(.*\\) \\{$").matcher(lines[i]);
      if (m.find() && !lines[i].trim().matches("(if|for|while|switch|else|do)\\b.*")) {
        int end = i;
        while (end < lines.length && !lines[end].equals(m.group(1) + "}")) {
          end++;
        }
        c.due(lines[i].trim() + " has some sixty lines", end - i <= 60, true);
        boolean constructor = lines[i].trim().matches("(public )?[A-Z]\\w*\\(.*");
        for (int j = i; j < end && !constructor; j++) {
          c.due(lines[j].trim() + " makes nothing", Pattern.compile("\\bnew\\b").matcher(lines[j]).find(), false);
        }
      }
    }
  }
}
