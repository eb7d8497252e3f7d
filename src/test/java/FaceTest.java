import java.lang.reflect.Constructor;
import java.lang.reflect.Executable;
import java.lang.reflect.Field;
import java.lang.reflect.Method;
import java.lang.reflect.Modifier;
import java.util.Arrays;
import java.util.Set;
import java.util.TreeSet;

/** "The public face", and rule 1 of LANGUAGE.md. */
public final class FaceTest {
  private static final String STATE = "IllegalStateException";
  private static final String INDEX = "IndexOutOfBoundsException";
  private static final String ARGUMENT = "IllegalArgumentException";

  public static void main(String[] args) {
    Due due = new Due("FaceTest");
    due.is("NONE", -1, () -> PartDrawings.NONE);
    due.holds("the class", "public final", Modifier.toString(PartDrawings.class.getModifiers()));
    members(due);
    privateNames(due);
    nestedClasses(due);
    due.end();
  }

  private static void members(Due due) {
    Set<String> want = new TreeSet<>(Arrays.asList(
        "public static final int NONE",
        "PartDrawings(int, int)",
        "int box(long, long, long, long, long) " + STATE + " " + ARGUMENT,
        "boolean deep(int, long) " + INDEX + " " + ARGUMENT,
        "void explode(int, long, long, long) " + INDEX + " " + ARGUMENT,
        "int draw(int) " + ARGUMENT,
        "long command(int, int) " + STATE + " " + INDEX,
        "int on(long, long, boolean) " + STATE,
        "long ink(boolean) " + STATE,
        "int measure(int, int, int) " + INDEX + " " + STATE + " " + ARGUMENT,
        "int row(int) " + INDEX,
        "long total(int, int) " + ARGUMENT,
        "long section(int, long, int) " + ARGUMENT,
        "long list(int, int) " + INDEX + " " + ARGUMENT,
        "int page(int, int) " + STATE + " " + INDEX + " " + ARGUMENT,
        "int code(int, int) " + INDEX + " " + ARGUMENT,
        "int keep() " + STATE,
        "int changed(int) " + STATE + " " + ARGUMENT));
    due.holds("the face", want.toString(), visible().toString());
  }

  private static Set<String> visible() {
    Set<String> found = new TreeSet<>();
    for (Field f : PartDrawings.class.getDeclaredFields()) {
      if (!Modifier.isPrivate(f.getModifiers())) {
        found.add(Modifier.toString(f.getModifiers()) + " " + f.getType() + " " + f.getName());
      }
    }
    for (Constructor<?> c : PartDrawings.class.getDeclaredConstructors()) {
      if (!Modifier.isPrivate(c.getModifiers())) {
        found.add(described(c));
      }
    }
    for (Method m : PartDrawings.class.getDeclaredMethods()) {
      if (!Modifier.isPrivate(m.getModifiers())) {
        found.add(m.getReturnType() + " " + described(m));
      }
    }
    return found;
  }

  private static String described(Executable e) {
    StringBuilder text = new StringBuilder(e.getName()).append('(');
    for (int i = 0; i < e.getParameterCount(); i++) {
      text.append(i == 0 ? "" : ", ").append(e.getParameterTypes()[i]);
    }
    text.append(')');
    for (Class<?> thrown : e.getExceptionTypes()) {
      text.append(' ').append(thrown.getSimpleName());
    }
    return text.toString();
  }

  private static void privateNames(Due due) {
    Set<String> names = new TreeSet<>();
    for (Method m : PartDrawings.class.getMethods()) {
      names.add(m.getName());
    }
    Set<String> twice = new TreeSet<>();
    addPrivateNames(PartDrawings.class, names, twice);
    for (Class<?> c : PartDrawings.class.getDeclaredClasses()) {
      addPrivateNames(c, names, twice);
    }
    due.holds("private methods with a public one's name", "[]", twice.toString());
  }

  private static void addPrivateNames(Class<?> c, Set<String> names, Set<String> twice) {
    for (Method m : c.getDeclaredMethods()) {
      if (Modifier.isPrivate(m.getModifiers()) && names.contains(m.getName())) {
        twice.add(m.getName());
      }
    }
  }

  private static void nestedClasses(Due due) {
    Set<String> wrong = new TreeSet<>();
    for (Class<?> c : PartDrawings.class.getDeclaredClasses()) {
      int m = c.getModifiers();
      if (Modifier.isPublic(m) || Modifier.isProtected(m) || !Modifier.isStatic(m)) {
        wrong.add(c.getSimpleName());
      }
    }
    due.holds("nested classes that are visible or not static", "[]", wrong.toString());
  }
}
