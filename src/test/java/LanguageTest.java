import java.io.IOException;
import java.nio.file.Files;
import java.nio.file.Path;
import java.util.regex.Matcher;
import java.util.regex.Pattern;

/** What LANGUAGE.md forbids outright and what can be seen by a look at the words alone. */
public final class LanguageTest {
  private static final String[] FORBIDDEN = {"\\bpackage\\b", "\\bfinally\\b", "\\bsynchronized\\b",
      "\\bassert\\b", "->", "::", "\\w+Exact\\b", "\\bgetMessage\\b", "\\bhashCode\\b",
      "catch \\((Exception|Throwable|RuntimeException|ArrayIndexOutOfBounds|NullPointer|"
          + "ArithmeticException|ClassCast|NegativeArraySize|ArrayStore)",
      "static \\{", "\\bSystem\\.(?!arraycopy\\b)", "\\bThread\\b", "\\bRandom\\b",
      "\\bimport (?!java\\.util\\.(ArrayList|List|Arrays|Iterator|NoSuchElementException);)"};
  private static final int MOST_LINES = 60;

  public static void main(String[] args) throws IOException {
    Due due = new Due("LanguageTest");
    String source = Files.readString(Path.of("src/main/java/PartDrawings.java"));
    String code = source.replaceAll("(?s)/\\*.*?\\*/", "").replaceAll("//[^\n]*", "");
    for (String f : FORBIDDEN) {
      Matcher found = Pattern.compile(f).matcher(code);
      due.holds("a look for " + f, "none", found.find() ? found.group() : "none");
    }
    methodLengths(due, code);
    due.end();
  }

  private static void methodLengths(Due due, String code) {
    Matcher method = Pattern.compile("(?m)^( {2,4})(?!class|  )[^\\n=;]*\\([^;{]*\\{\\n(?s:.*?)^\\1\\}")
        .matcher(code);
    while (method.find()) {
      long lines = method.group().lines().count();
      String name = method.group().trim().lines().findFirst().orElse("");
      due.holds(name, "short", lines <= MOST_LINES ? "short" : lines + " lines");
    }
  }
}
