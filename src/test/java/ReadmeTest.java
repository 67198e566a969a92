import java.io.ByteArrayOutputStream;
import java.io.IOException;
import java.io.PrintStream;
import java.lang.reflect.Method;
import java.lang.reflect.Modifier;
import java.nio.charset.StandardCharsets;
import java.nio.file.Files;
import java.nio.file.Path;
import java.util.TreeSet;
import java.util.regex.Matcher;
import java.util.regex.Pattern;

/** README.md tells what is so: its example is the program that runs, and its tables are complete. */
public final class ReadmeTest {
  /** A text for each fault, from 1 on. */
  private static final String[] FAULTY = {
    "p(a). $", "p(a). p(b", "p(a). q(p).", "p(a,a,a,a,a,a).", Texts.predicates(61), "~".repeat(31) + "p."
  };

  public static void main(String[] args) throws IOException {
    String readme = Files.readString(Path.of("README.md"));
    Check check = new Check();
    check.promise("README.md");
    example(check, readme);
    calls(check, readme);
    faults(check, readme);
    check.end();
  }

  private static void example(Check check, String readme) throws IOException {
    String source = Files.readString(Path.of("src/test/java/Example.java"));
    check.due("the program", block(readme, "java"), source);
    check.due("what it prints", block(readme, "text"), printed());
  }

  private static String block(String readme, String language) {
    Matcher m = Pattern.compile("```" + language + "\n(.*?)```\n", Pattern.DOTALL).matcher(readme);
    return m.find() ? m.group(1) : "";
  }

  private static String printed() {
    PrintStream before = System.out;
    ByteArrayOutputStream bytes = new ByteArrayOutputStream();
    System.setOut(new PrintStream(bytes, true, StandardCharsets.UTF_8));
    try {
      Example.main(new String[0]);
    } finally {
      System.setOut(before);
    }
    return bytes.toString(StandardCharsets.UTF_8).replace("\r\n", "\n");
  }

  /** Each call has one row, with as many arguments as it takes. */
  private static void calls(Check check, String readme) {
    TreeSet<String> face = new TreeSet<>();
    for (Method m : PathProver.class.getDeclaredMethods()) {
      if (Modifier.isPublic(m.getModifiers())) {
        face.add(m.getName() + "/" + m.getParameterCount());
      }
    }
    TreeSet<String> told = new TreeSet<>();
    Matcher m = Pattern.compile("^\\| `(\\w+)\\((.*?)\\)` \\| ", Pattern.MULTILINE).matcher(readme);
    while (m.find()) {
      int arguments = m.group(2).isEmpty() ? 0 : m.group(2).split(",").length;
      check.due("a second row for " + m.group(1), told.add(m.group(1) + "/" + arguments) ? 1 : 0, 1);
    }
    check.due("the calls", told.toString(), face.toString());
  }

  private static void faults(Check check, String readme) {
    for (int i = 0; i < FAULTY.length; i++) {
      int answer = -11 - i;
      check.x = new PathProver();
      check.read(FAULTY[i], answer);
      check.due("the row of " + answer, readme.contains("\n| " + answer + " | ") ? 1 : 0, 1);
    }
  }
}
