import java.net.URL;
import java.net.URLClassLoader;
import java.nio.file.Files;
import java.nio.file.Path;
import java.util.Comparator;
import java.util.List;
import java.util.regex.Matcher;
import java.util.regex.Pattern;
import javax.tools.JavaCompiler;
import javax.tools.ToolProvider;

/** The example in README.md compiles, and every answer that it names behind a call is due. */
public final class ReadmeTest {
  private static final Pattern ANSWERED =
      Pattern.compile("(?:\\w+ (\\w+) = )?(.+); *// answers (-?\\d+|true|false)\\b.*");

  private final Due due = new Due("ReadmeTest");
  private final StringBuilder program = new StringBuilder();
  private int answers;

  public static void main(String[] args) throws Exception {
    ReadmeTest test = new ReadmeTest();
    test.write(Files.readAllLines(Path.of("README.md")));
    test.run();
    test.due.end();
  }

  private void write(List<String> readme) {
    int from = readme.indexOf("```java");
    int to = from + readme.subList(from, readme.size()).indexOf("```");
    program.append("public final class Example {\n");
    program.append("  static void is(StringBuilder t, String call, long want, long got) {\n");
    program.append("    if (want != got) t.append(call).append(\" is \").append(got);\n  }\n");
    program.append("  static long number(long n) { return n; }\n");
    program.append("  static long number(boolean b) { return b ? 1 : 0; }\n");
    program.append("  public static String wrong() {\n");
    program.append("    StringBuilder t = new StringBuilder();\n");
    readme.subList(from + 1, to).forEach(this::writeLine);
    program.append("    return t.toString();\n  }\n}\n");
  }

  private void writeLine(String line) {
    Matcher m = ANSWERED.matcher(line);
    if (!m.matches()) {
      program.append(line).append('\n');
      return;
    }
    answers++;
    String got = m.group(2);
    if (m.group(1) != null) {
      program.append(line).append('\n');
      got = m.group(1);
    }
    program.append("is(t, \"").append(m.group(2)).append("\", number(").append(m.group(3));
    program.append("), number(").append(got).append("));\n");
  }

  private void run() throws Exception {
    Path folder = Files.createTempDirectory("readme");
    Path source = folder.resolve("Example.java");
    Files.writeString(source, program.toString());
    JavaCompiler javac = ToolProvider.getSystemJavaCompiler();
    String classPath = System.getProperty("java.class.path");
    int code = javac.run(
        null, null, null, "-cp", classPath, "-d", folder.toString(), source.toString());
    due.is("javac of the example", 0, () -> code);
    if (code == 0) {
      due.holds("the example", "", wrongAnswers(folder));
    }
    due.holds("answers named in the example", "some", answers > 0 ? "some" : "none");
    Files.walk(folder).sorted(Comparator.reverseOrder()).forEach(p -> p.toFile().delete());
  }

  private static String wrongAnswers(Path folder) throws Exception {
    URL[] urls = {folder.toUri().toURL()};
    try (URLClassLoader loader = new URLClassLoader(urls, ReadmeTest.class.getClassLoader())) {
      return (String) loader.loadClass("Example").getMethod("wrong").invoke(null);
    }
  }
}
