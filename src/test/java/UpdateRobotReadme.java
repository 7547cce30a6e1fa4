import java.io.IOException;
import java.lang.reflect.Method;
import java.lang.reflect.Modifier;
import java.nio.file.Files;
import java.nio.file.Path;
import java.util.ArrayList;
import java.util.List;
import java.util.Set;
import java.util.TreeSet;
import java.util.regex.Matcher;
import java.util.regex.Pattern;
import java.util.stream.Collectors;
import java.util.stream.Stream;

/** README.md lies at the project's root, from where tests are run, and what it says is so. */
public final class UpdateRobotReadme {
  private static final Path README = Path.of("README.md");
  private static final Path CI = Path.of(".ci", "run");
  private static final Path MAIN = Path.of("src", "main", "java");
  private static final Path TESTS = Path.of("src", "test", "java");

  private static int wrong = 0;

  private static void due(String what, Object got, Object want) {
    if (!got.equals(want)) {
      wrong++;
      System.out.println(what + ": " + got + ", due is " + want);
    }
  }

  /** The lines between the nth opening fence of a language and the fence that ends it. */
  private static List<String> block(List<String> readme, String language, int nth) {
    List<String> lines = new ArrayList<>();
    int seen = 0;
    boolean inside = false;
    for (String line : readme) {
      if (line.equals("```" + language)) {
        seen++;
        inside = seen == nth;
      } else if (line.equals("```")) {
        inside = false;
      } else if (inside && !line.isBlank()) {
        lines.add(line);
      }
    }
    return lines;
  }

  /** The example's calls, made here in its order, each with what it answers. */
  private static List<String> exampleAsItGoes() {
    UpdateRobot robot = new UpdateRobot(1);
    List<String> lines = new ArrayList<>();
    lines.add("UpdateRobot robot = new UpdateRobot(1); // at most one open proposal by repository");
    int app = robot.name(0);
    lines.add("int app = robot.name(0); // " + app);
    int lib = robot.name(0);
    lines.add("int lib = robot.name(0); // " + lib);
    lines.add("robot.newer(app, 2); // " + robot.newer(app, 2));
    lines.add("robot.newer(lib, 0); // " + robot.newer(lib, 0));
    lines.add("robot.needs(app, 1, lib, 1); // " + robot.needs(app, 1, lib, 1));
    lines.add("robot.run(); // " + robot.run());
    lines.add("robot.waiting(); // " + robot.waiting());
    lines.add("robot.target(0, lib); // " + robot.target(0, lib));
    lines.add("robot.pass(0, true); // " + robot.pass(0, true));
    lines.add("robot.has(lib); // " + robot.has(lib));
    lines.add("robot.about(0, 0); // " + robot.about(0, 0));
    lines.add("robot.open(0); // " + robot.open(0));
    return lines;
  }

  private static void example(List<String> readme) {
    List<String> told = new ArrayList<>();
    for (String line : block(readme, "java", 1)) {
      told.add(line.replaceAll(" +", " ").replaceAll("// (\\w+): .*", "// $1"));
    }
    due("the example", told, exampleAsItGoes());
  }

  /** Every call of the face stands in a table's first column, with so many arguments. */
  private static void tables(List<String> readme) {
    Set<String> told = new TreeSet<>();
    Pattern call = Pattern.compile("`(\\w+)\\(([^)]*)\\)`");
    for (String line : readme) {
      if (line.startsWith("| `") && !line.startsWith("| `new ")) {
        Matcher m = call.matcher(line.split(" \\| ")[0]);
        while (m.find()) {
          int arguments = m.group(2).isEmpty() ? 0 : m.group(2).split(",").length;
          told.add(m.group(1) + " with " + arguments);
        }
      }
    }
    Set<String> face = new TreeSet<>();
    for (Method m : UpdateRobot.class.getDeclaredMethods()) {
      if (Modifier.isPublic(m.getModifiers())) {
        face.add(m.getName() + " with " + m.getParameterCount());
      }
    }
    due("the calls in the tables", told, face);
  }

  private static Set<String> filesIn(Path folder) throws IOException {
    try (Stream<Path> files = Files.list(folder)) {
      return files.map(f -> f.getFileName().toString()).collect(Collectors.toCollection(TreeSet::new));
    }
  }

  private static void tests(List<String> readme) throws IOException {
    List<String> behind = readme.subList(readme.indexOf("## How to run its tests") + 1, readme.size());
    Set<String> told = new TreeSet<>();
    Matcher m = Pattern.compile("(?m)^- `(\\w+)`").matcher(String.join("\n", behind));
    while (m.find()) {
      told.add(m.group(1) + ".java");
    }
    due("the tests that README.md lists", told, filesIn(TESTS));
  }

  /** One command runs them all; one test alone is run by the commands of the script. */
  private static void commands(List<String> readme) throws IOException {
    due("how all tests are run", block(readme, "sh", 1), List.of(".ci/run"));
    due(".ci/run can be run", Files.isExecutable(CI), true);
    List<String> alone = block(readme, "sh", 2);
    due("how one test is run: commands", alone.size(), 2);
    String script = Files.readString(CI)
        .replace("\"$classes\"", "/tmp/classes")
        .replace("\"$main\"", "src/main/java/UpdateRobot.java")
        .replace("\"$1\"", "src/test/java/UpdateRobotPromises.java")
        .replace("\"$name\"", "UpdateRobotPromises");
    for (String command : alone) {
      due(".ci/run has '" + command + "'", script.contains(command), true);
    }
  }

  private static void oneFile() throws IOException {
    due("files of the class", filesIn(MAIN), Set.of("UpdateRobot.java"));
  }

  public static void main(String[] args) throws IOException {
    if (Files.isRegularFile(README)) {
      List<String> readme = Files.readAllLines(README);
      example(readme);
      tables(readme);
      tests(readme);
      commands(readme);
      oneFile();
    } else {
      due("README.md at the project's root", "is missing", "is there");
    }
    System.out.println(wrong == 0 ? "all answers are as due" : wrong + " answers are not as due");
    if (wrong != 0) System.exit(1);
  }
}
