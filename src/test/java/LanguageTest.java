import java.io.IOException;
import java.lang.reflect.Executable;
import java.lang.reflect.Field;
import java.lang.reflect.Modifier;
import java.nio.file.Files;
import java.nio.file.Path;
import java.util.ArrayList;
import java.util.List;
import java.util.Set;
import java.util.TreeSet;
import java.util.regex.Matcher;
import java.util.regex.Pattern;

/** Those rules of LANGUAGE.md that can be seen by a look at words, or at the class's members. */
public final class LanguageTest {
  private static final String[] FORBIDDEN = {"\\bpackage\\b", "\\bfinally\\b", "\\bsynchronized\\b",
      "\\bassert\\b", "->", "::", "\\w+Exact\\b", "\\bgetMessage\\b", "\\bhashCode\\b", "\\bvar\\b",
      "catch \\((Exception|Throwable|RuntimeException|ArrayIndexOutOfBounds|NullPointer|"
          + "ArithmeticException|ClassCast|NegativeArraySize|ArrayStore)",
      "static \\{", "\\bprotected\\b", "\\b(double|float)\\b", "\\[\\]\\s*\\[\\]\\s*\\[\\]",
      "\"\\s*\\+|\\+\\s*\"", "[=!]=\\s*\"", "\\btoString\\b", "\\bimport\\b",
      "\\bthrow (?!new Illegal(State|Argument)Exception\\(\"[^\"]*\"\\);"
          + "|new IndexOutOfBoundsException\\(\"[^\"]*\"\\);)",
      "[^\\x00-\\x7e]"};

  // All that the class takes of the library: what it does not need is not allowed here either.
  private static final Set<String> LIBRARY = Set.of("String", "StringBuilder", "Math", "Integer",
      "System", "IllegalStateException", "IllegalArgumentException", "IndexOutOfBoundsException");
  private static final Set<String> FUNCTIONS = Set.of("Math.min", "Math.max", "Integer.compare",
      "System.arraycopy");

  private static final int MOST_LINES = 60;
  private static final int MOST_PARAMETERS = 7;
  private static final int MOST_CLASSES = 12;
  private static final int MOST_FIELDS = 20;

  public static void main(String[] args) throws IOException {
    Due due = new Due("LanguageTest");
    String source = Files.readString(Path.of("src/main/java/PartDrawings.java"));
    String code = source.replaceAll("(?s)/\\*.*?\\*/", "").replaceAll("//[^\n]*", "");
    for (String f : FORBIDDEN) {
      Matcher found = Pattern.compile(f).matcher(code);
      due.holds("a look for " + f, "none", found.find() ? found.group() : "none");
    }
    methodLengths(due, code);
    library(due, code.replaceAll("\"[^\"]*\"", "\"\""));
    members(due);
    due.end();
  }

  private static void methodLengths(Due due, String code) {
    Matcher method = Pattern.compile("(?m)^( {2,4})(?!class|  )[^\\n=;]*\\([^;{]*\\{\\n(?s:.*?)^\\1\\}")
        .matcher(code);
    while (method.find()) {
      long lines = method.group().lines().count();
      String name = method.group().trim().lines().findFirst().orElse("");
      due.holds(name, "short", lines <= MOST_LINES ? "short" : lines + " lines");
    }
  }

  // Rules 3 and 4: no class but those of the file and of the list, and no other function of them.
  private static void library(Due due, String code) {
    Set<String> own = new TreeSet<>();
    for (Class<?> c : classes()) {
      own.add(c.getSimpleName());
    }
    Set<String> others = new TreeSet<>();
    Matcher name = Pattern.compile("\\b[A-Z]\\w*[a-z]\\w*").matcher(code);
    while (name.find()) {
      if (!own.contains(name.group()) && !LIBRARY.contains(name.group())) {
        others.add(name.group());
      }
    }
    due.holds("classes of the library beside those of the list", "[]", others.toString());
    Set<String> functions = new TreeSet<>();
    Matcher call = Pattern.compile("\\b(Math|Integer|Long|System|String|Arrays)\\.\\w+")
        .matcher(code);
    while (call.find()) {
      functions.add(call.group());
    }
    functions.removeAll(FUNCTIONS);
    due.holds("functions of the library beside those of the list", "[]", functions.toString());
  }

  private static List<Class<?>> classes() {
    List<Class<?>> all = new ArrayList<>(List.of(PartDrawings.class));
    all.addAll(List.of(PartDrawings.class.getDeclaredClasses()));
    return all;
  }

  // Rules 1, 5 and 11.
  private static void members(Due due) {
    Set<String> wrong = new TreeSet<>();
    for (Class<?> c : classes()) {
      fields(c, wrong);
      List<Executable> all = new ArrayList<>(List.of(c.getDeclaredMethods()));
      all.addAll(List.of(c.getDeclaredConstructors()));
      for (Executable e : all) {
        if (e.getParameterCount() > MOST_PARAMETERS) {
          wrong.add(e + " has " + e.getParameterCount() + " parameters");
        }
      }
      if (c != PartDrawings.class && c.getDeclaredClasses().length > 0) {
        wrong.add(c + " has classes inside, which are not looked at here");
      }
    }
    due.holds("members outside the rules", "[]", wrong.toString());
    due.holds("how many classes", "few", classes().size() <= MOST_CLASSES ? "few" : "many");
  }

  private static void fields(Class<?> c, Set<String> wrong) {
    int ofObjects = 0;
    for (Field f : c.getDeclaredFields()) {
      boolean isConstant = Modifier.isStatic(f.getModifiers());
      ofObjects += isConstant ? 0 : 1;
      if (isConstant && !(Modifier.isFinal(f.getModifiers()) && f.getType().isPrimitive())) {
        wrong.add(f + " is no constant");
      }
    }
    if (ofObjects > MOST_FIELDS) {
      wrong.add(c + " has " + ofObjects + " fields");
    }
  }
}
