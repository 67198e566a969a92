import java.io.IOException;
import java.lang.reflect.Constructor;
import java.lang.reflect.Field;
import java.lang.reflect.Method;
import java.lang.reflect.Modifier;
import java.nio.file.Files;
import java.nio.file.Path;
import java.util.Arrays;
import java.util.Set;
import java.util.TreeSet;
import java.util.regex.Matcher;
import java.util.regex.Pattern;

/** The public face, and the rules of the language that can be seen from outside or in the text. */
public final class FaceTest {
  private static final Set<String> FACE = new TreeSet<>(Arrays.asList(
      "feed(long,int)", "read()", "place()", "clear()", "count(int)", "clause(int,int)", "write(int)",
      "octet(int)", "search(int,int)", "told(int)", "move(int,int)", "show(int)"));
  private static int wrong;

  public static void main(String[] args) throws IOException {
    face();
    classesInside();
    source(Files.readString(Path.of("src/main/java/PathProver.java")));
    System.out.println("the face: " + wrong + " wrong");
    System.exit(wrong == 0 ? 0 : 1);
  }

  private static void want(boolean good, String what) {
    if (!good) {
      wrong++;
      System.out.println("not so: " + what);
    }
  }

  private static void face() {
    Class<?> c = PathProver.class;
    want(Modifier.isPublic(c.getModifiers()) && Modifier.isFinal(c.getModifiers()), "public and final");
    want(c.getSuperclass() == Object.class && c.getInterfaces().length == 0, "nothing above it");
    Constructor<?>[] makers = c.getDeclaredConstructors();
    want(makers.length == 1 && Modifier.isPublic(makers[0].getModifiers())
        && makers[0].getParameterCount() == 0, "one public constructor");
    Set<String> found = new TreeSet<>();
    for (Method m : c.getDeclaredMethods()) {
      if (m.isSynthetic()) {
        continue;
      }
      if (Modifier.isPrivate(m.getModifiers())) {
        continue;
      }
      want(Modifier.isPublic(m.getModifiers()) && !Modifier.isStatic(m.getModifiers()), m + " is public");
      want(m.getReturnType() == int.class, m + " answers an int");
      want(m.getExceptionTypes().length == 0, m + " names no exception");
      StringBuilder name = new StringBuilder(m.getName()).append('(');
      for (Class<?> type : m.getParameterTypes()) {
        name.append(name.charAt(name.length() - 1) == '(' ? "" : ",").append(type.getName());
      }
      found.add(name.append(')').toString());
    }
    want(found.equals(FACE), "the methods are " + FACE + ", not " + found);
    fields(c, true);
  }

  private static void fields(Class<?> c, boolean allPrivate) {
    int own = 0;
    for (Field f : c.getDeclaredFields()) {
      if (f.isSynthetic()) {
        continue;
      }
      boolean isStatic = Modifier.isStatic(f.getModifiers());
      want(!isStatic || Modifier.isFinal(f.getModifiers()), f + " is final");
      want(!allPrivate || Modifier.isPrivate(f.getModifiers()), f + " is private");
      want(!Modifier.isPublic(f.getModifiers()) && !Modifier.isProtected(f.getModifiers()), f + " is not public");
      own += isStatic ? 0 : 1;
    }
    want(own <= 20, c + " has at most 20 fields");
  }

  private static void classesInside() {
    Class<?>[] inside = PathProver.class.getDeclaredClasses();
    want(inside.length + 1 <= 12, "at most 12 classes");
    Set<String> names = new TreeSet<>();
    for (String method : FACE) {
      names.add(method.substring(0, method.indexOf('(')));
    }
    for (Class<?> c : inside) {
      int modifiers = c.getModifiers();
      want(Modifier.isStatic(modifiers) && !Modifier.isPublic(modifiers), c + " is static and not public");
      fields(c, false);
      for (Method m : c.getDeclaredMethods()) {
        want(m.isSynthetic() || m.getParameterCount() <= 7, m + " has at most seven parameters");
        want(m.isSynthetic() || !names.contains(m.getName()), m + " bears no public name");
      }
    }
  }

  private static void source(String text) {
    String code = text.replaceAll("(?s)/\\*.*?\\*/", "").replaceAll("//[^\n]*", "").replaceAll("\"[^\"\n]*\"", "\"\"");
    String[] forbidden = {
      "\\bthrow\\b", "\\btry\\b", "\\bcatch\\b", "\\bsynchronized\\b", "\\bassert\\b", "\\bimport\\b", "->", "::",
      "\\bpackage\\b", "\\bprotected\\b", "Exact\\b", "\"\\s*\\+", "\\+\\s*\"", "\\bdouble\\b", "\\bfloat\\b"
    };
    for (String pattern : forbidden) {
      want(!Pattern.compile(pattern).matcher(code).find(), "no " + pattern);
    }
    Matcher method = Pattern.compile("(?m)^    (?:    )?(?! )[^\\n;=]*\\) \\{\\n(?s:.*?)\\n(    (?:    )?)\\}\\n").matcher(code);
    while (method.find()) {
      int lines = method.group().split("\n").length;
      want(lines <= 60, "short: " + method.group().substring(0, method.group().indexOf('\n')).trim());
    }
  }
}
