import java.io.IOException;
import java.net.URL;
import java.net.URLClassLoader;
import java.nio.file.Files;
import java.nio.file.Path;
import java.util.ArrayList;
import java.util.Comparator;
import java.util.List;
import java.util.regex.Matcher;
import java.util.regex.Pattern;
import java.util.stream.Stream;
import javax.tools.ToolProvider;

/** README.md tells the class as it is: its example is run, its tables name every call. */
public final class ReadmeTest {
  private static final Path README = Path.of("README.md");
  private static final Pattern ASKED = Pattern.compile("(?m)^balloon\\.(.+);\\s+// (-?\\d+): .*$");

  public static void main(String[] args) throws Exception {
    Check check = new Check();
    String readme = Files.readString(README);
    example(check, readme);
    callsAreNamed(check, readme);
    check.end();
  }

  /** The lines of the example, those with an answer told put into a list of answers. */
  private static void example(Check check, String readme) throws Exception {
    int start = readme.indexOf("```java\n");
    int end = readme.indexOf("```", start + 8);
    check.holds("there is an example", start >= 0 && end > start);
    String lines = readme.substring(start + 8, end);
    List<String> calls = new ArrayList<>();
    List<Long> due = new ArrayList<>();
    Matcher asked = ASKED.matcher(lines);
    while (asked.find()) {
      calls.add(asked.group(1));
      due.add(Long.valueOf(asked.group(2)));
    }
    check.holds("the example tells answers", calls.size() >= 10);
    List<Long> answers = answersOf(ASKED.matcher(lines).replaceAll("answers.add((long) balloon.$1);"));
    check.is("answers", answers.size(), calls.size());
    for (int i = 0; i < calls.size() && i < answers.size(); i++) {
      check.is("README: " + calls.get(i), answers.get(i), due.get(i));
    }
  }

  private static List<Long> answersOf(String lines) throws Exception {
    Path folder = Files.createTempDirectory("readme");
    try {
      Path file = folder.resolve("Example.java");
      Files.writeString(file, "public class Example implements java.util.function.Supplier<java.util.List<Long>> {\n"
          + "public java.util.List<Long> get() {\njava.util.List<Long> answers = new java.util.ArrayList<>();\n"
          + lines + "return answers;\n}\n}\n");
      int failed = ToolProvider.getSystemJavaCompiler().run(null, null, null, "-cp",
          System.getProperty("java.class.path"), "-d", folder.toString(), file.toString());
      if (failed != 0) {
        return List.of();
      }
      try (URLClassLoader loader = new URLClassLoader(new URL[] {folder.toUri().toURL()})) {
        Object made = loader.loadClass("Example").getConstructor().newInstance();
        List<Long> answers = new ArrayList<>();
        for (Object answer : (List<?>) ((java.util.function.Supplier<?>) made).get()) {
          answers.add((Long) answer);
        }
        return answers;
      }
    } finally {
      drop(folder);
    }
  }

  private static void drop(Path folder) throws IOException {
    try (Stream<Path> files = Files.walk(folder)) {
      for (Path file : files.sorted(Comparator.reverseOrder()).toList()) {
        Files.delete(file);
      }
    }
  }

  private static void callsAreNamed(Check check, String readme) {
    int start = readme.indexOf("| The calls |");
    int end = readme.indexOf("\n\n", Math.max(0, start));
    check.holds("there is a table of calls", start >= 0 && end > start);
    String table = readme.substring(Math.max(0, start), Math.max(0, end));
    for (var method : DownAmongFences.class.getDeclaredMethods()) {
      if (java.lang.reflect.Modifier.isPublic(method.getModifiers())) {
        check.holds("README names " + method.getName(), table.contains("`" + method.getName() + "`"));
      }
    }
  }
}
