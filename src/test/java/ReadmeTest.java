import java.io.IOException;
import java.net.URL;
import java.net.URLClassLoader;
import java.nio.file.Files;
import java.nio.file.Path;
import java.util.ArrayList;
import java.util.List;
import java.util.regex.Matcher;
import java.util.regex.Pattern;
import javax.tools.ToolProvider;

/** The example of README.md: it compiles, and each call of it answers what is written behind it. */
public final class ReadmeTest {
  private static final Pattern EXAMPLE = Pattern.compile("(?s)```java\n(.*?)```");
  private static final Pattern ANSWERED = Pattern.compile("(x\\.\\w+\\(.*?\\));\\s*// (-?\\d+)\\b.*");

  public static void main(String[] args) throws IOException, ReflectiveOperationException {
    Due due = new Due();
    Matcher example = EXAMPLE.matcher(Files.readString(Path.of("README.md")));
    due.is("there is an example", example.find() ? 1 : 0, 1);
    List<String> calls = new ArrayList<>();
    List<Long> answers = new ArrayList<>();
    String body = bodyOf(due, example.group(1), calls, answers);
    due.is("it has many calls", calls.size() > 20 ? 1 : 0, 1);
    long[] got = run(body, calls.size());
    for (int k = 0; k < got.length; k++) {
      due.is("README.md: " + calls.get(k), got[k], answers.get(k));
    }
    due.is("there is one example", example.find() ? 1 : 0, 0);
    due.end();
  }

  /** The lines of the example, with each answer taken; a call that stands by itself has to have one. */
  private static String bodyOf(Due due, String example, List<String> calls, List<Long> answers) {
    StringBuilder body = new StringBuilder();
    for (String line : example.split("\n")) {
      Matcher answered = ANSWERED.matcher(line);
      if (answered.matches()) {
        body.append("got[" + calls.size() + "] = " + answered.group(1) + ";\n");
        calls.add(answered.group(1));
        answers.add(Long.valueOf(answered.group(2)));
      } else {
        due.is("an answer behind: " + line, line.startsWith("x.") ? 1 : 0, 0);
        body.append(line).append('\n');
      }
    }
    return body.toString();
  }

  private static long[] run(String body, int calls) throws IOException, ReflectiveOperationException {
    Path folder = Files.createTempDirectory("readme");
    Path source = folder.resolve("Example.java");
    Path compiled = folder.resolve("Example.class");
    try (URLClassLoader loader = new URLClassLoader(new URL[] {folder.toUri().toURL()})) {
      Files.writeString(source, "public final class Example {\npublic static long[] got() {\nlong[] got = new long["
          + calls + "];\n" + body + "return got;\n}\n}\n");
      int failed = ToolProvider.getSystemJavaCompiler().run(null, null, null,
          "-cp", System.getProperty("java.class.path"), "-d", folder.toString(), source.toString());
      return failed != 0 ? new long[calls] : (long[]) loader.loadClass("Example").getMethod("got").invoke(null);
    } finally {
      Files.deleteIfExists(compiled);
      Files.deleteIfExists(source);
      Files.delete(folder);
    }
  }
}
