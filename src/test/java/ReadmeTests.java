import java.io.IOException;
import java.lang.reflect.Method;
import java.lang.reflect.Modifier;
import java.nio.file.Files;
import java.nio.file.Path;
import java.util.ArrayList;
import java.util.List;
import java.util.Set;
import java.util.TreeSet;
import java.util.regex.Matcher;
import java.util.regex.Pattern;
import javax.tools.ToolProvider;

/** What README.md, in the directory that the test runs in, tells of the class is so. */
public final class ReadmeTests {
  private static final Pattern ANSWERED = Pattern.compile("(?:int (\\w+) = )?(search\\..*); *// (-?[0-9]+),.*");
  private static int wrong = 0;

  /** What the example calls for each row: called by the class that is made of it. */
  public static void due(String call, long got, long want) {
    if (got != want) fault("the example's " + call + " answered " + got + ", README.md says " + want);
  }

  private static void fault(String what) {
    wrong++;
    System.out.println(what);
  }

  private static List<String> example(String readme) {
    int from = readme.indexOf("```java\n") + 8;
    int to = readme.indexOf("```", from);
    return from < 8 || to < 0 ? List.of() : readme.substring(from, to).lines().toList();
  }

  private static void runExample(List<String> lines) throws IOException, ReflectiveOperationException {
    StringBuilder body = new StringBuilder();
    int answers = 0;
    for (String line : lines) {
      Matcher answered = ANSWERED.matcher(line);
      if (!answered.matches()) {
        body.append(line).append('\n');
        continue;
      }
      answers++;
      String name = answered.group(1) == null ? "answer" + answers : answered.group(1);
      String call = answered.group(2);
      body.append("long " + name + "Told = " + call + ";\nint " + name + " = (int) " + name + "Told;\n");
      body.append("ReadmeTests.due(\"" + call + "\", " + name + "Told, " + answered.group(3) + "L);\n");
    }
    if (answers < 10) fault("the example has " + answers + " answers alone");
    runBody(body.toString());
  }

  private static void runBody(String body) throws IOException, ReflectiveOperationException {
    Path made = Files.createTempDirectory("readme");
    Path source = made.resolve("Example.java");
    Files.writeString(source, "public final class Example {\npublic static void run() {\n" + body + "}\n}\n");
    String classes = System.getProperty("java.class.path");
    int failed = ToolProvider.getSystemJavaCompiler().run(null, null, null, "-cp", classes, "-d", made.toString(),
        source.toString());
    if (failed != 0) {
      fault("the example does not compile");
    } else {
      try (var loader = new java.net.URLClassLoader(new java.net.URL[] {made.toUri().toURL()})) {
        loader.loadClass("Example").getMethod("run").invoke(null);
      }
    }
    for (String name : new String[] {"Example.class", "Example.java", ""}) Files.deleteIfExists(made.resolve(name));
  }

  /** Each row of the table begins with a call: its name and as many parameters as it has. */
  private static void table(String readme) {
    Set<String> told = new TreeSet<>();
    Matcher row = Pattern.compile("(?m)^\\| `(\\w+)\\(([^)]*)\\)`").matcher(readme);
    while (row.find()) {
      int parameters = row.group(2).isEmpty() ? 0 : row.group(2).split(",").length;
      if (!told.add(row.group(1) + " " + parameters)) fault(row.group(1) + " has two rows in README.md");
    }
    Set<String> face = new TreeSet<>();
    for (Method each : SlipSearch.class.getDeclaredMethods()) {
      if (Modifier.isPublic(each.getModifiers())) face.add(each.getName() + " " + each.getParameterCount());
    }
    if (!told.equals(face)) fault("README.md's table has " + told + ", the face has " + face);
  }

  private static void testsAreNamed(String readme) throws IOException {
    try (var files = Files.list(Path.of("src/test/java"))) {
      files.map(file -> file.getFileName().toString().replace(".java", ""))
          .filter(name -> !readme.contains("`" + name + "`"))
          .forEach(name -> fault("README.md does not tell what " + name + " is"));
    }
  }

  public static void main(String[] args) throws IOException, ReflectiveOperationException {
    String readme = Files.readString(Path.of("README.md"));
    runExample(example(readme));
    table(readme);
    testsAreNamed(readme);
    System.out.println(wrong == 0 ? "README.md tells what is so" : wrong + " faults of README.md");
    if (wrong != 0) System.exit(1);
  }
}
