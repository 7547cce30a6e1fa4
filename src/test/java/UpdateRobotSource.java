import java.io.IOException;
import java.lang.reflect.Field;
import java.lang.reflect.Method;
import java.lang.reflect.Modifier;
import java.nio.file.Files;
import java.nio.file.Path;
import java.util.List;
import java.util.Set;
import java.util.TreeSet;
import java.util.regex.Pattern;

/** Those rules of LANGUAGE.md that can be read off the file or the class made of it. */
public final class UpdateRobotSource {
  private static final Path SOURCE = Path.of("src", "main", "java", "UpdateRobot.java");
  private static final int MOST_LINES = 60;
  private static final int MOST_PARAMETERS = 7;
  private static final int MOST_CLASSES = 12;
  private static final int MOST_FIELDS = 20;

  /** Words that the rules forbid, or that this class has no use for: no promise throws. */
  private static final List<String> UNWANTED = List.of(
      "package", "import", "throw", "throws", "try", "catch", "finally", "synchronized", "assert",
      "instanceof", "double", "float", "native", "volatile", "transient", "var", "Object", "System");

  private static int wrong = 0;

  private static void due(String rule, boolean holds) {
    if (!holds) {
      wrong++;
      System.out.println(rule);
    }
  }

  private static String withoutComments(String source) {
    return source.replaceAll("(?s)/\\*.*?\\*/", "").replaceAll("//[^\n]*", "");
  }

  private static void words(String code) {
    for (String word : UNWANTED) {
      due("the file has the word " + word, !Pattern.compile("\\b" + word + "\\b").matcher(code).find());
    }
    due("rule 2: a lambda", !code.contains("->"));
    due("rule 2: a method reference", !code.contains("::"));
  }

  /** Methods stand at four blanks in the outer class and at eight in those inside it. */
  private static void lengths(String source) {
    String head = "( {4}| {8})(?!if |for |while |switch |do |else |return )\\w.*\\) \\{";
    int start = 0;
    int number = 0;
    for (String line : source.split("\n")) {
      number++;
      if (line.matches(head)) start = number;
      if (line.matches("( {4}| {8})\\}")) {
        int lines = number - start + 1;
        due("rule 11: a method of " + lines + " lines ends at " + number, lines <= MOST_LINES);
      }
    }
  }

  /** Rule 5 for static fields, rule 11 for the number of others. */
  private static void fields(Class<?> type) {
    int own = 0;
    for (Field f : type.getDeclaredFields()) {
      boolean isStatic = Modifier.isStatic(f.getModifiers());
      own += isStatic ? 0 : 1;
      due("rule 5: " + f, !isStatic || Modifier.isFinal(f.getModifiers()) && f.getType() == int.class);
    }
    due("rule 11: fields of " + type, own <= MOST_FIELDS);
  }

  private static void methods(Class<?> type, Set<String> face) {
    for (Method m : type.getDeclaredMethods()) {
      due("rule 11: parameters of " + m, m.getParameterCount() <= MOST_PARAMETERS);
      due("rule 1: " + m, !Modifier.isPrivate(m.getModifiers()) || !face.contains(m.getName()));
    }
  }

  private static void classes() {
    Class<?>[] inside = UpdateRobot.class.getDeclaredClasses();
    due("rule 11: classes", inside.length < MOST_CLASSES);
    Set<String> face = new TreeSet<>();
    for (Method m : UpdateRobot.class.getDeclaredMethods()) {
      due("rule 1: " + m, Modifier.isPublic(m.getModifiers()) || Modifier.isPrivate(m.getModifiers()));
      if (Modifier.isPublic(m.getModifiers())) face.add(m.getName());
    }
    fields(UpdateRobot.class);
    methods(UpdateRobot.class, face);
    for (Class<?> type : inside) {
      int flags = type.getModifiers();
      due("rule 1: " + type, Modifier.isStatic(flags) && !Modifier.isPublic(flags) && !Modifier.isProtected(flags));
      fields(type);
      methods(type, face);
    }
  }

  public static void main(String[] args) throws IOException {
    String source = Files.readString(SOURCE);
    words(withoutComments(source));
    lengths(source);
    classes();
    System.out.println(wrong == 0 ? "all rules hold" : wrong + " rules do not hold");
    if (wrong != 0) System.exit(1);
  }
}
