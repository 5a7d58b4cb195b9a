import java.util.ArrayList;
import java.util.HashMap;
import java.util.List;
import java.util.Map;
import java.util.function.ToLongFunction;

/** A text read in the plainest way, with the Java library: a second opinion for the tests. */
final class PlainText {
  /** What the names of a law stand for, and the rolls that can be asked for their holes. */
  static final class Scene {
    final Map<String, Integer> names = new HashMap<>();
    List<int[]> rolls;
  }

  static final class Fault extends RuntimeException {
    final int what;
    final int at;
    Fault(int what, int at) {
      super("fault " + what + " at " + at);
      this.what = what;
      this.at = at;
    }
  }

  record Clause(String word, int a, int b, List<Integer> keys) { }

  final Map<String, ToLongFunction<Scene>> laws = new HashMap<>();
  final List<Clause> clauses = new ArrayList<>();

  private static final List<String> CLAUSE_WORDS =
      List.of("blurs", "learns", "wears", "roll", "child", "play", "patch", "forget", "sunday");
  private static final List<String> NAMES = List.of("sunday", "key", "who", "heard", "roll", "place", "wear");
  private static final Map<String, List<String>> NAMES_OF = Map.of(
      "blurs", List.of("sunday", "key", "who", "heard", "roll", "place", "wear"),
      "learns", List.of("sunday", "key", "who", "heard"),
      "wears", List.of("sunday", "key", "roll", "place", "wear"));

  private final String source;
  private int at;
  private String token;
  private int start;
  private String law;
  private int open;

  PlainText(String source) {
    this.source = source;
    next();
    while (!token.isEmpty()) readClause();
  }

  private static boolean letter(char c) {
    return "abcdefghijklmnopqrstuvwxyzABCDEFGHIJKLMNOPQRSTUVWXYZ".indexOf(c) >= 0;
  }

  private static boolean digit(char c) {
    return "0123456789".indexOf(c) >= 0;
  }

  private void next() {
    while (at < source.length() && " \n".indexOf(source.charAt(at)) >= 0) at++;
    start = at;
    if (at == source.length()) {
      token = "";
    } else if (letter(source.charAt(at))) {
      while (at < source.length() && letter(source.charAt(at))) at++;
      token = source.substring(start, at);
    } else if (digit(source.charAt(at))) {
      while (at < source.length() && digit(source.charAt(at))) at++;
      token = source.substring(start, at);
    } else {
      at += source.startsWith("<=", at) || source.startsWith(">=", at) ? 2 : 1;
      token = source.substring(start, at);
    }
  }

  private Fault fault(int what) {
    return new Fault(what, start);
  }

  private String take(String... any) {
    if (!List.of(any).contains(token)) throw fault(1);
    String taken = token;
    next();
    return taken;
  }

  private boolean isNumber() {
    return !token.isEmpty() && digit(token.charAt(0));
  }

  private int number(int low, int high) {
    if (!isNumber()) throw fault(1);
    java.math.BigInteger value = new java.math.BigInteger(token);
    if (value.bitLength() > 30 || value.intValue() < low || value.intValue() > high) throw fault(2);
    return value.intValue();
  }

  private int takeNumber(int low, int high) {
    int value = number(low, high);
    next();
    return value;
  }

  private void readClause() {
    String word = token;
    if (!CLAUSE_WORDS.contains(word)) throw fault(1);
    if (laws.containsKey(word)) throw fault(4);
    if (clauses.size() == 24) throw fault(6);
    next();
    int a = 0;
    int b = 0;
    List<Integer> keys = new ArrayList<>();
    switch (word) {
      case "child" -> { }
      case "roll" -> {
        do {
          if (!keys.isEmpty()) take(",");
          int key = number(0, 5);
          if (keys.size() == 16) throw fault(7);
          keys.add(key);
          next();
        } while (token.equals(","));
      }
      case "play" -> { a = takeNumber(0, 4); take("to"); b = takeNumber(0, 3); }
      case "patch" -> { a = takeNumber(0, 15); take("of"); b = takeNumber(0, 4); }
      case "forget" -> { a = takeNumber(1, 5); take("by"); b = takeNumber(0, 3); }
      case "sunday" -> a = takeNumber(1, 60);
      default -> { law = word; laws.put(word, sum()); }
    }
    take(";");
    clauses.add(new Clause(word, a, b, keys));
  }

  private static long cut(long value) {
    return value > 1000000 ? 1000000 : value < -1000000 ? -1000000 : value;
  }

  private ToLongFunction<Scene> sum() {
    ToLongFunction<Scene> left = product();
    while (token.equals("+") || token.equals("-")) {
      boolean plus = token.equals("+");
      next();
      ToLongFunction<Scene> a = left;
      ToLongFunction<Scene> b = product();
      left = plus ? s -> cut(a.applyAsLong(s) + b.applyAsLong(s)) : s -> cut(a.applyAsLong(s) - b.applyAsLong(s));
    }
    return left;
  }

  private ToLongFunction<Scene> product() {
    ToLongFunction<Scene> left = one();
    while (token.equals("*") || token.equals("/")) {
      boolean times = token.equals("*");
      next();
      ToLongFunction<Scene> a = left;
      ToLongFunction<Scene> b = one();
      left = times
          ? s -> cut(a.applyAsLong(s) * b.applyAsLong(s))
          : s -> b.applyAsLong(s) == 0 ? 0 : a.applyAsLong(s) / b.applyAsLong(s);
    }
    return left;
  }

  private void enter() {
    if (open == 8) throw fault(3);
    open++;
    next();
  }

  private ToLongFunction<Scene> one() {
    if (isNumber()) {
      int value = takeNumber(0, 9999);
      return s -> value;
    }
    if (NAMES.contains(token)) {
      if (!NAMES_OF.get(law).contains(token)) throw fault(5);
      String name = take(token);
      return s -> s.names.get(name);
    }
    String word = token;
    if (!List.of("(", "-", "digits", "holes", "if").contains(word)) throw fault(1);
    enter();
    ToLongFunction<Scene> made = switch (word) {
      case "(" -> {
        ToLongFunction<Scene> inner = sum();
        take(")");
        yield inner;
      }
      case "if" -> choice();
      case "-" -> {
        ToLongFunction<Scene> inner = one();
        yield s -> -inner.applyAsLong(s);
      }
      case "digits" -> {
        ToLongFunction<Scene> inner = one();
        yield s -> Long.toString(Math.abs(inner.applyAsLong(s))).chars().map(c -> c - '0').sum();
      }
      default -> {
        ToLongFunction<Scene> inner = one();
        yield s -> holes(s, inner.applyAsLong(s));
      }
    };
    open--;
    return made;
  }

  private static long holes(Scene scene, long roll) {
    if (roll < 0 || roll >= scene.rolls.size()) return 0;
    return java.util.Arrays.stream(scene.rolls.get((int) roll)).filter(key -> key != 0).count();
  }

  private ToLongFunction<Scene> choice() {
    ToLongFunction<Scene> condition = either();
    take("then");
    ToLongFunction<Scene> yes = sum();
    take("else");
    ToLongFunction<Scene> no = sum();
    take("end");
    return s -> condition.applyAsLong(s) != 0 ? yes.applyAsLong(s) : no.applyAsLong(s);
  }

  private ToLongFunction<Scene> either() {
    List<ToLongFunction<Scene>> sides = new ArrayList<>();
    sides.add(both());
    while (token.equals("or")) {
      next();
      sides.add(both());
    }
    return s -> sides.stream().anyMatch(side -> side.applyAsLong(s) != 0) ? 1 : 0;
  }

  private ToLongFunction<Scene> both() {
    List<ToLongFunction<Scene>> sides = new ArrayList<>();
    sides.add(ask());
    while (token.equals("and")) {
      next();
      sides.add(ask());
    }
    return s -> sides.stream().allMatch(side -> side.applyAsLong(s) != 0) ? 1 : 0;
  }

  private ToLongFunction<Scene> ask() {
    if (token.equals("not")) {
      enter();
      ToLongFunction<Scene> inner = ask();
      open--;
      return s -> inner.applyAsLong(s) == 0 ? 1 : 0;
    }
    ToLongFunction<Scene> a = sum();
    String sign = take("<", "<=", ">", ">=", "=", "#");
    ToLongFunction<Scene> b = sum();
    return s -> {
      int order = Long.compare(a.applyAsLong(s), b.applyAsLong(s));
      return switch (sign) {
        case "<" -> order < 0;
        case "<=" -> order <= 0;
        case ">" -> order > 0;
        case ">=" -> order >= 0;
        case "=" -> order == 0;
        default -> order != 0;
      } ? 1 : 0;
    };
  }
}
