import java.io.File;
import java.io.IOException;
import java.nio.file.Files;
import java.nio.file.Path;
import java.util.ArrayList;
import java.util.List;
import java.util.Set;
import java.util.TreeSet;
import java.util.regex.Matcher;
import java.util.regex.Pattern;

/** That README.md is true: its example answers what stands beside it, its commands run, its tests are those there are. */
public final class ReadmeTest {
  private static final Check c = new Check();
  /** A call as a line of its own, with what it answers behind it. */
  private static final Pattern CALL = Pattern.compile("^((?:x\\.\\w+|tell)\\(.*\\));\\s*// (-?\\d+|true|false)(?::.*)?$");

  public static void main(String[] args) throws IOException, InterruptedException {
    String page = Files.readString(Path.of("README.md"));
    Path room = Files.createTempDirectory("readme");
    example(page, room);
    commands(page, room);
    tests(page);
    Check.clear(room.toFile());
    c.finish();
  }

  private static List<String> blocks(String page, String kind) {
    List<String> found = new ArrayList<>();
    Matcher m = Pattern.compile("(?s)```" + kind + "\n(.*?)```").matcher(page);
    while (m.find()) {
      found.add(m.group(1));
    }
    return found;
  }

  /** A method stands beside main, all else within it; a call's answer is compared to its comment. */
  private static void example(String page, Path room) throws IOException, InterruptedException {
    c.part("README.md, the example");
    StringBuilder beside = new StringBuilder();
    StringBuilder within = new StringBuilder();
    int calls = 0;
    for (String block : blocks(page, "java")) {
      if (block.startsWith("static ")) {
        beside.append(block);
        continue;
      }
      for (String line : block.split("\n")) {
        Matcher m = CALL.matcher(line);
        boolean isCall = m.matches();
        boolean plain = line.isEmpty() || line.startsWith("//") || line.equals("RansomPieces x = new RansomPieces();");
        c.due("'" + line + "' is a call with its answer, or none at all", isCall || plain, true);
        if (isCall) {
          calls++;
          String told = m.group(1).replace("\\", "\\\\").replace("\"", "\\\"");
          within.append("due(\"" + told + "\", \"\" + " + m.group(1) + ", \"" + m.group(2) + "\");\n");
        } else {
          within.append(line).append('\n');
        }
      }
    }
    c.due("calls are in it", calls > 40, true);
    String source = "public final class Example {\nstatic int wrong;\n"
        + "static void due(String call, String got, String want) {\nif (!got.equals(want)) {\nwrong++;\n"
        + "System.out.println(call + \" answered \" + got + \", README.md says \" + want);\n}\n}\n"
        + beside + "public static void main(String[] args) {\n" + within + "System.exit(wrong == 0 ? 0 : 1);\n}\n}\n";
    Path file = room.resolve("Example.java");
    Files.writeString(file, source);
    c.due("it compiles", run("javac", "--release", "17", "-d", room.toString(), "src/main/java/RansomPieces.java", file.toString()), 0);
    c.due("it answers so", run("java", "-cp", room.toString(), "Example"), 0);
  }

  /** All but .ci/run itself, within which this test is run. */
  private static void commands(String page, Path room) throws IOException, InterruptedException {
    c.part("README.md, the commands");
    List<String> found = blocks(page, "sh");
    c.due("two blocks of them", found.size(), 2);
    c.due("the script is there", Files.isExecutable(Path.of(".ci/run")), true);
    for (String block : found) {
      if (!block.equals(".ci/run\n")) {
        String elsewhere = block.replace("/tmp/ransom", room.resolve("one").toString());
        c.due(block, run("sh", "-e", "-c", elsewhere), 0);
      }
    }
  }

  private static void tests(String page) {
    c.part("README.md, the tests");
    Set<String> named = new TreeSet<>();
    Matcher m = Pattern.compile("`(\\w+Test)`").matcher(page);
    while (m.find()) {
      named.add(m.group(1));
    }
    Set<String> there = new TreeSet<>();
    String[] files = new File("src/test/java").list();
    for (String file : files == null ? new String[0] : files) {
      if (file.endsWith("Test.java")) {
        there.add(file.substring(0, file.length() - 5));
      }
    }
    c.due("named are " + named + ", there are " + there, named.equals(there), true);
    m = Pattern.compile("`(help/\\w+\\.java)`").matcher(page);
    while (m.find()) {
      c.due(m.group(1) + " is there", new File("src/test/java/" + m.group(1)).isFile(), true);
    }
  }

  private static int run(String... command) throws IOException, InterruptedException {
    return new ProcessBuilder(command).inheritIO().start().waitFor();
  }
}
