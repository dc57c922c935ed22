import java.io.File;
import java.io.IOException;
import java.nio.file.Files;
import java.nio.file.Path;
import java.util.ArrayList;
import java.util.List;

/** That .ci/run does what README.md says of it: seen on small projects of its own, which are run at the same time. */
public final class RunScriptTest {
  private static final Check c = new Check();
  private static final String CLASS = "public final class RansomPieces { public int look(int what) { return 3; } }";
  private static final String HELPER = "final class Want { static final int THREE = 3; }";

  /** A project that is run, and whether it should pass. */
  private static final class Project {
    final String name;
    final Path top;
    final boolean passes;
    Process process;

    Project(String name, boolean passes) throws IOException {
      this.name = name;
      this.passes = passes;
      top = Files.createTempDirectory("script");
      put("project/src/main/java/RansomPieces.java", CLASS);
      put("project/src/test/java/help/Want.java", HELPER);
      put("project/src/test/java/OneTest.java", test("OneTest", "Want.THREE"));
      put("shared/tests/Other.java", test("Other", "3"));
      put("project/.ci/run", Files.readString(Path.of(".ci/run")));
    }

    Project put(String path, String text) throws IOException {
      Path file = top.resolve(path);
      Files.createDirectories(file.getParent());
      Files.writeString(file, text);
      return this;
    }

    Project without(String path) throws IOException {
      Files.delete(top.resolve(path));
      return this;
    }

    void start() throws IOException {
      process = new ProcessBuilder("sh", top.resolve("project/.ci/run").toString())
          .redirectErrorStream(true).redirectOutput(new File(top.toFile(), "said")).start();
    }

    String end() throws IOException, InterruptedException {
      c.due(name + " passes", process.waitFor() == 0, passes);
      String said = Files.readString(top.resolve("said"));
      Check.clear(top.toFile());
      return said;
    }
  }

  private static String test(String name, String want) {
    return "public final class " + name + " { public static void main(String[] a) {"
        + " System.exit(new RansomPieces().look(0) == " + want + " ? 0 : 1); } }";
  }

  public static void main(String[] args) throws IOException, InterruptedException {
    c.part(".ci/run");
    String ownTest = "project/src/test/java/AnotherTest.java";
    String sharedTest = "shared/tests/Another.java";
    List<Project> all = new ArrayList<>();
    all.add(new Project("all as due", true));
    all.add(new Project("more tests, all as due", true).put(ownTest, test("AnotherTest", "Want.THREE"))
        .put(sharedTest, test("Another", "3")));
    all.add(new Project("a test of the project that fails", false).put(ownTest, test("AnotherTest", "4")));
    all.add(new Project("a shared test that fails", false).put(sharedTest, test("Another", "4")));
    all.add(new Project("a test that throws", false).put(ownTest, test("AnotherTest", "3 / (Want.THREE - 3)")));
    all.add(new Project("a test that is not to be compiled", false).put(sharedTest, test("Another", "none")));
    all.add(new Project("a class that is not to be compiled", false)
        .put("project/src/main/java/RansomPieces.java", "public final class RansomPieces {"));
    all.add(new Project("a class with a warning", false).put("project/src/main/java/RansomPieces.java",
        CLASS.replace("return 3;", "return (int) 3;")));
    all.add(new Project("no shared tests", false).without("shared/tests/Other.java").without("shared/tests"));
    for (Project one : all) {
      one.start();
    }
    List<String> said = new ArrayList<>();
    for (Project one : all) {
      said.add(one.end());
    }
    c.due("it says what passed", said.get(1).contains("passed: src/test/java/AnotherTest.java")
        && said.get(1).contains("passed: ../shared/tests/Another.java"), true);
    c.due("it says what failed", said.get(2).contains("FAILED: src/test/java/AnotherTest.java"), true);
    c.due("the others are run all the same", said.get(2).contains("passed: src/test/java/OneTest.java")
        && said.get(2).contains("passed: ../shared/tests/Other.java"), true);
    c.finish();
  }
}
