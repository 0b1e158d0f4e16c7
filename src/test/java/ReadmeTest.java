import java.io.File;
import java.io.IOException;
import java.lang.reflect.Method;
import java.lang.reflect.Modifier;
import java.net.URL;
import java.net.URLClassLoader;
import java.nio.file.Files;
import java.nio.file.Path;
import java.util.ArrayList;
import java.util.Comparator;
import java.util.List;
import java.util.regex.Matcher;
import java.util.regex.Pattern;
import java.util.stream.Stream;
import javax.tools.ToolProvider;

/** What README.md shows is so: its calls and their answers, its commands, and the tests that it names. */
public final class ReadmeTest extends Asking {
  // A call, the number that it answers, and words if there is more to say.
  private static final Pattern SHOWN =
      Pattern.compile("(?:int (\\w+) = )?(x\\.(\\w+)\\(.*\\)); +// (-?\\d+)(:.*)?");
  private static final Pattern TEST_NAME = Pattern.compile("`(\\w+Test)`");

  /** One call that the page shows: its line there, its method, and the answer that stands behind it. */
  private record Call(int line, String method, int answer) {}

  private static final StringBuilder program = new StringBuilder();
  private static final List<String> commands = new ArrayList<>();
  private static final List<Call> calls = new ArrayList<>();
  private static Path root;
  private static Path build;

  public static void main(String[] args) throws Exception {
    root = Path.of(args[0]).toAbsolutePath().normalize().getParent().getParent().getParent().getParent();
    build = Files.createTempDirectory("readme");
    try {
      List<String> page = Files.readAllLines(root.resolve("README.md"));
      take(page);
      everyCallIsShown();
      answersAreSo();
      commandsRun();
      testsAreNamed(String.join("\n", page));
    } finally {
      delete(build);
    }
    Due.end();
  }

  /** Takes the page apart: lines of its blocks of Java, and commands, which stand four blanks in. */
  private static void take(List<String> page) {
    boolean inBlock = false;
    for (int i = 0; i < page.size(); i++) {
      String line = page.get(i);
      if (line.startsWith("```")) {
        inBlock = line.equals("```java");
      } else if (inBlock) {
        takeShown(line, i + 1);
      } else if (line.startsWith("    ")) {
        commands.add(line.trim());
      }
    }
  }

  private static void takeShown(String line, int number) {
    Matcher shown = SHOWN.matcher(line);
    if (!shown.matches()) {
      same("README.md line " + number + " without an answer", line,
          "InscribedStones x = new InscribedStones();");
      program.append(line).append('\n');
      return;
    }
    String got = "got[" + calls.size() + "]";
    program.append(got + " = " + shown.group(2) + ";\n");
    if (shown.group(1) != null) {
      program.append("int " + shown.group(1) + " = " + got + ";\n");
    }
    calls.add(new Call(number, shown.group(3), Integer.parseInt(shown.group(4))));
  }

  private static void everyCallIsShown() {
    for (Method method : InscribedStones.class.getDeclaredMethods()) {
      String name = method.getName();
      if (Modifier.isPublic(method.getModifiers())) {
        due(name + " is shown", calls.stream().anyMatch(call -> call.method().equals(name)) ? 1 : 0, 1);
      }
    }
    due("a run of calls that is promised", calls.size() <= 512 ? 1 : 0, 1);
  }

  private static void answersAreSo() throws Exception {
    Path source = build.resolve("Shown.java");
    Files.writeString(source, "public final class Shown {\npublic static int[] answers() {\nint[] got = new int["
        + calls.size() + "];\n" + program + "return got;\n}\n}\n");
    int compiled = ToolProvider.getSystemJavaCompiler().run(null, null, null,
        "-cp", System.getProperty("java.class.path"), "-d", build.toString(), source.toString());
    due("compiling what README.md shows", compiled, 0);
    if (compiled != 0) {
      return;
    }
    try (URLClassLoader loader = new URLClassLoader(new URL[] {build.toUri().toURL()})) {
      int[] got = (int[]) loader.loadClass("Shown").getMethod("answers").invoke(null);
      for (int i = 0; i < got.length; i++) {
        Call call = calls.get(i);
        due("README.md line " + call.line() + ", " + call.method(), got[i], call.answer());
      }
    }
  }

  /** The commands run one behind the other, in a directory of their own in place of build. */
  private static void commandsRun() throws Exception {
    due("commands", commands.size(), 4);
    for (String command : commands) {
      if (command.equals(".ci/run")) {
        due(command + " may be run", Files.isExecutable(root.resolve(command)) ? 1 : 0, 1);
        continue;
      }
      Path log = build.resolve("log");
      Process run = new ProcessBuilder("bash", "-c", command.replace(" build ", " '" + build + "' "))
          .directory(root.toFile()).redirectErrorStream(true).redirectOutput(log.toFile()).start();
      int code = run.waitFor();
      due(command, code, 0);
      if (code != 0) {
        System.out.println(Files.readString(log));
      }
    }
  }

  private static void testsAreNamed(String page) {
    List<String> named = new ArrayList<>();
    Matcher names = TEST_NAME.matcher(page);
    while (names.find()) {
      named.add(names.group(1));
    }
    List<String> there = new ArrayList<>();
    for (File file : root.resolve("src/test/java").toFile().listFiles()) {
      if (file.getName().endsWith("Test.java")) {
        there.add(file.getName().replace(".java", ""));
      }
    }
    for (String name : there) {
      due(name + " is named", named.contains(name) ? 1 : 0, 1);
    }
    for (String name : named) {
      due(name + " is there", there.contains(name) ? 1 : 0, 1);
    }
  }

  private static void delete(Path directory) throws IOException {
    try (Stream<Path> files = Files.walk(directory)) {
      for (Path file : (Iterable<Path>) files.sorted(Comparator.reverseOrder())::iterator) {
        Files.delete(file);
      }
    }
  }
}
