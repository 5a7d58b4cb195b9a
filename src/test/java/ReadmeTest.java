import java.lang.reflect.Method;
import java.lang.reflect.Modifier;
import java.net.URL;
import java.net.URLClassLoader;
import java.nio.file.Files;
import java.nio.file.Path;
import java.util.regex.Matcher;
import java.util.regex.Pattern;
import javax.tools.JavaCompiler;
import javax.tools.ToolProvider;

/** README.md: each call that it shows answers what stands behind it, and it names each call of the face. */
public final class ReadmeTest extends Bench {
  private static final Pattern BLOCK = Pattern.compile("(?s)```java\n(.*?)```");
  private static final Pattern CALL = Pattern.compile("(.*\\));\\s*// (-?\\d+|true|false)\\b.*");

  public static void main(String[] args) throws Exception {
    heading("README.md");
    String readme = Files.readString(Path.of("README.md"));
    for (Method m : PianolaRolls.class.getDeclaredMethods()) {
      if (!Modifier.isPublic(m.getModifiers())) continue;
      due(m.getName() + " is named", readme.contains("`" + m.getName() + "`"), true);
    }
    run(readme);
    finish("the page");
  }

  /** What is shown, as a class whose main looks at each answer that is told. */
  private static String shown(String readme) {
    StringBuilder members = new StringBuilder();
    StringBuilder rows = new StringBuilder();
    int answers = 0;
    Matcher block = BLOCK.matcher(readme);
    while (block.find()) {
      if (block.group(1).startsWith("static ")) {
        members.append(block.group(1));
        continue;
      }
      for (String row : block.group(1).split("\n")) {
        Matcher call = CALL.matcher(row);
        if (call.matches()) answers++;
        rows.append(call.matches() ? checked(call.group(1), call.group(2)) : row).append('\n');
      }
    }
    due("answers are told", answers >= 30, true);
    return "class Shown {\n" + members + "static void show() {\n" + rows + "}\n}\n";
  }

  private static String checked(String call, String answer) {
    return "ReadmeTest.look(\"" + call.replace("\"", "'") + "\", " + call + ", " + answer + ");";
  }

  // What is shown is loaded apart from the tests, so that only what is public can be called from there.
  public static void look(String call, long got, long want) { due(call, got, want); }

  public static void look(String call, boolean got, boolean want) { due(call, got, want); }

  private static void run(String readme) throws Exception {
    Path folder = Files.createTempDirectory("shown");
    Path file = folder.resolve("Shown.java");
    Files.writeString(file, shown(readme));
    JavaCompiler compiler = ToolProvider.getSystemJavaCompiler();
    String classes = System.getProperty("java.class.path");
    due("errors", compiler.run(null, null, null, "-cp", classes, "-d", folder.toString(), file.toString()), 0);
    try (URLClassLoader loader = new URLClassLoader(new URL[] {folder.toUri().toURL()})) {
      Method show = loader.loadClass("Shown").getDeclaredMethod("show");
      show.setAccessible(true);
      show.invoke(null);
    }
    for (String name : new String[] {"Shown.class", "Shown.java"}) Files.deleteIfExists(folder.resolve(name));
    Files.deleteIfExists(folder);
  }
}
