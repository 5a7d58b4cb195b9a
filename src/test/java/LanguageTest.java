import java.lang.reflect.Field;
import java.lang.reflect.Method;
import java.lang.reflect.Modifier;
import java.nio.file.Files;
import java.nio.file.Path;
import java.util.Set;
import java.util.TreeSet;
import java.util.regex.Matcher;
import java.util.regex.Pattern;

/** The rules of LANGUAGE.md that a test can look at: the face, words that don't stand, sizes, and the room. */
public final class LanguageTest {
  private static int wrong = 0;

  private static void must(boolean holds, String what) {
    if (!holds) {
      wrong++;
      System.out.println("not so: " + what);
    }
  }

  public static void main(String[] args) throws Exception {
    String source = Files.readString(Path.of(args.length > 0 ? args[0] : "src/main/java/PianolaRolls.java"));
    String code = source.replaceAll("(?s)/\\*.*?\\*/", "").replaceAll("//[^\n]*", "");
    face();
    words(code);
    sizes(code);
    room();
    System.out.println(wrong == 0 ? "the rules that can be looked at hold" : wrong + " rules are broken");
    if (wrong != 0) System.exit(1);
  }

  private static void face() throws Exception {
    Class<?> c = PianolaRolls.class;
    Set<String> due = new TreeSet<>();
    Matcher row = Pattern.compile("public (int|long|boolean) (\\w+)\\((.*?)\\);").matcher(Files.readString(Path.of("../shared/DOC.md")));
    while (row.find()) due.add(row.group(1) + " " + row.group(2) + "(" + row.group(3).replaceAll(" \\w+(?=,|$)", "").replace(" ", "") + ")");
    Set<String> got = new TreeSet<>();
    Set<String> names = new TreeSet<>();
    for (Method m : c.getDeclaredMethods()) {
      if (!Modifier.isPublic(m.getModifiers())) continue;
      names.add(m.getName());
      StringBuilder types = new StringBuilder();
      for (Class<?> type : m.getParameterTypes()) types.append(types.length() == 0 ? "" : ",").append(type.getName());
      got.add(m.getReturnType() + " " + m.getName() + "(" + types + ")");
    }
    must(due.equals(got) && got.size() == 48, "the public methods are those of the document");
    must(Modifier.isFinal(c.getModifiers()) && c.getConstructors().length == 1, "the class is final and has one constructor");
    for (Method m : c.getDeclaredMethods()) {
      must(Modifier.isPublic(m.getModifiers()) || Modifier.isPrivate(m.getModifiers()), m.getName() + " is public or private");
      must(Modifier.isPublic(m.getModifiers()) || !names.contains(m.getName()), m.getName() + " is no public name");
    }
    for (Field f : c.getDeclaredFields()) {
      must(f.getName().equals("NONE") || Modifier.isPrivate(f.getModifiers()), f.getName() + " is private");
    }
    must(c.getDeclaredClasses().length <= 11, "there are at most twelve classes");
    for (Class<?> inner : c.getDeclaredClasses()) {
      must(Modifier.isStatic(inner.getModifiers()) && !Modifier.isPublic(inner.getModifiers()), inner + " is static and not public");
      for (Method m : inner.getDeclaredMethods()) {
        must(!names.contains(m.getName()), inner + "." + m.getName() + " is no public name");
        must(m.getParameterCount() <= 7, inner + "." + m.getName() + " takes seven at most");
      }
      int fields = 0;
      for (Field f : inner.getDeclaredFields()) if (!Modifier.isStatic(f.getModifiers())) fields++;
      must(fields <= 20, inner + " has at most twenty fields");
    }
  }

  private static void words(String code) {
    for (String word : "throw throws try catch finally synchronized assert volatile native transient var protected package record sealed".split(" ")) {
      must(!Pattern.compile("\\b" + word + "\\b").matcher(code).find(), "no " + word);
    }
    for (String part : new String[] {"->", "::", "System.out", "Exact(", "hashCode", "toString", "static {", "\" +", "+ \"", "@"}) {
      must(!code.contains(part), "no " + part);
    }
    Matcher imports = Pattern.compile("import ([\\w.]+);").matcher(code);
    while (imports.find()) must(imports.group(1).equals("java.util.Arrays"), "no import of " + imports.group(1));
    for (char sign : code.toCharArray()) must(sign == '\n' || sign >= 32 && sign < 127, "signs 32 to 126 alone");
  }

  /** Methods stay within some sixty lines: each begins behind four or eight blanks and ends at its brace. */
  private static void sizes(String code) {
    Matcher method = Pattern.compile("(?m)^( {4}| {8})(?! )([^\n=]*\\([^\n]*\\)) \\{\n(?s:.*?)\n\\1\\}").matcher(code);
    int many = 0;
    while (method.find()) {
      many++;
      must(method.group().lines().count() <= 60, method.group(2) + " has at most sixty lines");
    }
    must(many > 100, "methods are found");
  }

  /** Calls make nothing: all rows are made with the object. */
  private static void room() {
    com.sun.management.ThreadMXBean bean =
        (com.sun.management.ThreadMXBean) java.lang.management.ManagementFactory.getThreadMXBean();
    long thread = Thread.currentThread().getId();
    PianolaRolls p = null;
    long made = 0;
    long called = 0;
    for (int i = 0; i < 3; i++) {
      long before = bean.getThreadAllocatedBytes(thread);
      p = new PianolaRolls();
      long between = bean.getThreadAllocatedBytes(thread);
      dear(p);
      long behind = bean.getThreadAllocatedBytes(thread);
      made = between - before;
      called = behind - between;
    }
    must(made < 100000, "an object takes less than 100000 bytes, but " + made);
    must(called < 2000, "calls take no room, but " + called);
  }

  private static void dear(PianolaRolls p) {
    for (int roll = 0; roll < 5; roll++) {
      p.roll(16);
      for (int at = 0; at < 16; at++) p.hole(roll, at, 1 + (at * 7 + roll) % 5);
    }
    p.child();
    // 'learns h' 'eard+1;'
    p.feed(0x6c656172, 0x6e732068, 0x65617264, 0x2b313b20, 0x20202020);
    p.text();
    p.by(0);
    for (int i = 0; i < 10; i++) {
      p.stair(31, -1);
      p.teaches(0, 62, -1);
      p.sunday(60);
      p.foretold(60, 0, 1);
      p.years(i, 40);
      p.image();
      p.undo();
      p.back();
      p.common(0, 1, 2);
      p.edit(0, 1);
      p.fills(0);
      p.likely(0, 0, 1, 2, true);
      p.parts(0);
      p.alike();
      p.whose();
      p.best();
    }
  }
}
