import java.io.IOException;
import java.lang.reflect.Field;
import java.lang.reflect.Method;
import java.lang.reflect.Modifier;
import java.nio.file.Files;
import java.nio.file.Path;
import java.util.HashSet;
import java.util.Set;
import java.util.TreeSet;
import java.util.regex.Matcher;
import java.util.regex.Pattern;

/** The face of the document, and those rules of LANGUAGE.md that can be seen from outside. */
public final class LanguageTest {
  private static final Path SOURCE = Path.of("src/main/java/FerryChange.java");
  private static final String FACE = "int row(int,int) int lay(int,int,int) int at(int,int) int tear(int) "
      + "int copy(int,int,int,int,int) int mean(int) int text(int,int) int put(int,int,int) int fault(int) "
      + "int ferry(int) int passenger(int,int) int mark(int,int) int cross(int,int) int set(int,int,int) int undo(int) "
      + "int keep(int) int on(int) int changes(int,int,int) int run(int,int) int fewest(int,int,int,int) "
      + "int lives(int,int) int declared(int,int) int kinds(int,int) int next(int,int) int boats(int) int sets(int) "
      + "int sure(int) int alike(int,int) int duel(int,int,int) int odds(int,int,int) int mid(int,int,int) "
      + "int lots(int,int) int asked() long upper() long lower() int count(int) int finding() int findings(int) "
      + "long digest()";

  public static void main(String[] args) throws IOException {
    Due due = new Due();
    face(due);
    fields(due, FerryChange.class);
    for (Class<?> inside : FerryChange.class.getDeclaredClasses()) {
      due.is(inside + " is static", Modifier.isStatic(inside.getModifiers()) ? 1 : 0, 1);
      fields(due, inside);
    }
    due.is("at most twelve classes", FerryChange.class.getDeclaredClasses().length > 11 ? 1 : 0, 0);
    words(due, bare(Files.readString(SOURCE)));
    due.end();
  }

  private static void face(Due due) {
    Set<String> want = new TreeSet<>();
    Matcher m = Pattern.compile("(int|long) (\\w+\\([^)]*\\))").matcher(FACE);
    while (m.find()) {
      want.add(m.group(1) + " " + m.group(2));
    }
    Set<String> got = new TreeSet<>();
    Set<String> names = new HashSet<>();
    for (Method method : FerryChange.class.getDeclaredMethods()) {
      if (Modifier.isPublic(method.getModifiers())) {
        got.add(method.toGenericString().replaceFirst("public ", "").replace("FerryChange.", "").replace(", ", ","));
        names.add(method.getName());
      }
    }
    due.is("the face: " + got, got.equals(want) ? 1 : 0, 1);
    for (Method method : FerryChange.class.getDeclaredMethods()) {
      if (!Modifier.isPublic(method.getModifiers()) && !method.isSynthetic()) {
        due.is(method + " is private", Modifier.isPrivate(method.getModifiers()) ? 1 : 0, 1);
        due.is(method + " has a name of its own", names.contains(method.getName()) ? 1 : 0, 0);
        due.is(method + " takes few numbers", method.getParameterCount() > 7 ? 1 : 0, 0);
      }
    }
    due.is("the class is public and final", FerryChange.class.getModifiers(), Modifier.PUBLIC | Modifier.FINAL);
    due.is("one constructor", FerryChange.class.getConstructors().length, 1);
  }

  private static void fields(Due due, Class<?> one) {
    int own = 0;
    for (Field field : one.getDeclaredFields()) {
      int how = field.getModifiers();
      if (Modifier.isStatic(how)) {
        due.is(field + " is final", Modifier.isFinal(how) ? 1 : 0, 1);
        if (Modifier.isPublic(how)) {
          due.is(field + " is of the face", "BAD FULL FINDING STATE SPENT NONE".contains(field.getName()) ? 1 : 0, 1);
        }
      } else {
        own++;
        if (one == FerryChange.class) {
          due.is(field + " is private", Modifier.isPrivate(how) ? 1 : 0, 1);
        }
      }
    }
    due.is(one + " has few fields", own > 20 ? 1 : 0, 0);
  }

  private static String bare(String source) {
    return source.replaceAll("(?s)/\\*.*?\\*/", " ").replaceAll("//[^\n]*", " ").replaceAll("'[^']+'", "0");
  }

  private static void words(Due due, String source) {
    String[] not = {"\\bthrow\\b", "\\bthrows\\b", "\\btry\\b", "\\bcatch\\b", "\\bsynchronized\\b", "\\bassert\\b", "->", "::",
      "Exact\\b", "\\bprotected\\b", "static\\s*\\{", "\\bpackage\\b", "\\bObject\\b", "\\bSystem\\.(?!arraycopy)", "\\bdouble\\b",
      "import (?!java\\.util\\.(Arrays|ArrayList|List|Iterator);)"};
    for (String word : not) {
      due.is("there is " + word, Pattern.compile(word).matcher(source).find() ? 1 : 0, 0);
    }
    Matcher methods = Pattern.compile("(?ms)^( {4}| {8})(?! )[^=;{}\n]*\\)\\s*\\{\n.*?^\\1\\}").matcher(source);
    int many = 0;
    while (methods.find()) {
      many++;
      due.is(methods.group().trim().split("\n")[0] + " is short", methods.group().lines().count() > 60 ? 1 : 0, 0);
    }
    due.is("methods are seen", many > 80 ? 1 : 0, 1);
  }
}
